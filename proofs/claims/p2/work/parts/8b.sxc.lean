/-! SX: contracts, by program -/
section SXC
/-- LotBeliefs.Survey.advance -/
def ct896 : sxCt := (72, 1, (2, [(1, .ofNat 0, .ofNat 7)], [], [(0, .inl 74), (1, .inr (false, (1, .ofNat 0)))], [], [], []), [(77, 0)], [
  (3, [(1, .ofNat 0, .ofNat 7), (2, .negSucc 0, .ofNat 5)], [(2, 1, .negSucc 0)], [], [.inr (false, (2, .ofNat 0))], [], [])], [], 0, 0)
def cu896 : List sxCu := [
  (4, (3, [(1, .ofNat 0, .ofNat 7), (2, .negSucc 1, .ofNat 5)], [(2, 1, .negSucc 1)], [(0, .inl 74), (1, .inr (false, (1, .ofNat 0))), (2, .inr (false, (2, .ofNat 0)))], [], [], []), ((2, 0, .ofNat 15), (0, 0, .ofNat 0), (0, 0, .ofNat 0)), 0, 0), 
  (41, (4, [(1, .ofNat 2, .ofNat 7), (2, .ofNat 0, .ofNat 5), (3, .ofNat 0, .ofNat 6)], [(2, 1, .negSucc 1), (3, 1, .negSucc 0)], [(0, .inl 74), (1, .inr (false, (1, .ofNat 0))), (2, .inr (false, (2, .ofNat 0))), (3, .inr (false, (3, .ofNat 0)))], [], [(74, (0, .ofNat 7), .inl 77)], []), ((3, 0, .ofNat 6), (0, 0, .ofNat 0), (0, 0, .ofNat 0)), 0, 0), 
  (83, (6, [(1, .ofNat 2, .ofNat 7), (2, .ofNat 0, .ofNat 5), (3, .ofNat 0, .ofNat 6), (4, .ofNat 1, .ofNat 6), (5, .ofNat 1, .ofNat 6)], [(2, 1, .negSucc 1), (2, 4, .negSucc 0), (2, 5, .negSucc 0), (3, 1, .negSucc 0), (4, 1, .negSucc 0), (5, 1, .negSucc 0)], [(0, .inl 74), (1, .inr (false, (1, .ofNat 0))), (2, .inr (false, (2, .ofNat 0))), (3, .inr (false, (3, .ofNat 0))), (4, .inr (false, (4, .ofNat 0))), (5, .inr (false, (5, .ofNat 0)))], [], [(74, (0, .ofNat 7), .inl 77)], []), ((0, 4, .ofNat 6), (0, 0, .ofNat 0), (0, 0, .ofNat 0)), 0, 0)]
set_option maxRecDepth 1000000 in
theorem cv896 {gh : sxGh} (hg : sxGd sxKw gh) : sxCtV sxKw gh ct896 := sxMeB_ok (cts := []) (cuts := cu896) (sp := []) 196 (by decide +kernel) hg (by decide) (by decide) (fun _ h => absurd h List.not_mem_nil)
/-- LotBeliefs.Course.goBack -/
def ct897 : sxCt := (3, 1, (2, [(1, .ofNat 0, .ofNat 5)], [], [(0, .inl 32), (1, .inl 77), (2, .inr (false, (1, .ofNat 0)))], [], [], []), [(32, 11), (32, 12), (33, 0), (34, 0), (35, 0), (36, 0), (37, 0)], [
  (3, [(1, .ofNat 0, .ofNat 5), (2, .ofNat 0, .ofNat 17)], [], [], [], [(32, (0, .ofNat 10), .inr (false, (2, .ofNat 0)))], [])], [], 0, 0)
def cu897 : List sxCu := [
  (12, (3, [(1, .ofNat 0, .ofNat 5), (2, .ofNat 0, .ofNat 17)], [], [(0, .inl 32), (1, .inl 77), (2, .inr (false, (1, .ofNat 0))), (3, .inr (false, (2, .ofNat 0)))], [], [(32, (0, .ofNat 10), .inr (false, (0, .ofNat 0))), (32, (0, .ofNat 11), .inr (false, (0, .ofNat 0)))], []), ((0, 2, .ofNat 23), (0, 0, .ofNat 0), (0, 0, .ofNat 0)), 0, 0), 
  (46, (4, [(1, .ofNat 0, .ofNat 5), (2, .ofNat 0, .ofNat 5), (3, .ofNat 0, .ofNat 17)], [], [(0, .inl 32), (1, .inl 77), (2, .inr (false, (1, .ofNat 0))), (3, .inr (false, (2, .ofNat 0)))], [], [(32, (0, .ofNat 4), .inl 33), (32, (0, .ofNat 10), .inr (false, (3, .ofNat 0)))], []), ((0, 2, .ofNat 5), (0, 0, .ofNat 0), (0, 0, .ofNat 0)), 0, 0)]
set_option maxRecDepth 1000000 in
theorem cv897 {gh : sxGh} (hg : sxGd sxKw gh) : sxCtV sxKw gh ct897 := sxMeB_ok (cts := [ct797]) (cuts := cu897) (sp := []) 123 (by decide +kernel) hg (by decide) (by decide) (List.forall_mem_cons.mpr ⟨cv797 hg, (fun _ h => absurd h List.not_mem_nil)⟩)
/-- LotBeliefs.Course.play -/
def ct898 : sxCt := (2, 4, (3, [(1, .ofNat 0, .ofNat 7), (2, .ofNat 0, .ofNat 5)], [], [(0, .inl 32), (1, .inl 77), (2, .inr (false, (1, .ofNat 0))), (3, .inr (false, (2, .ofNat 0)))], [], [], []), [(21, 0), (22, 0), (25, 0), (26, 0), (32, 9), (32, 11), (32, 12), (33, 0), (34, 0), (35, 0), (36, 0), (37, 0)], [
  (5, [(1, .ofNat 0, .ofNat 7), (2, .ofNat 0, .ofNat 5), (3, .ofNat 0, .ofNat 4095), (4, .negSucc 2147483647, .ofNat 2147483647)], [], [], [], [(32, (0, .ofNat 8), .inr (false, (3, .ofNat 0))), (32, (0, .ofNat 11), .inr (false, (4, .ofNat 0)))], [])], [], 0, 0)
def cu898 : List sxCu := [
  (9, (4, [(1, .ofNat 0, .ofNat 7), (2, .ofNat 0, .ofNat 5), (3, .ofNat 0, .ofNat 7)], [(2, 3, .ofNat 0), (3, 1, .ofNat 5)], [(0, .inl 32), (1, .inl 77), (2, .inr (false, (1, .ofNat 0))), (3, .inr (false, (2, .ofNat 0))), (4, .inr (false, (3, .ofNat 0)))], [], [], []), ((0, 3, .ofNat 7), (0, 0, .ofNat 0), (0, 0, .ofNat 0)), 0, 0)]
set_option maxRecDepth 1000000 in
theorem cv898 {gh : sxGh} (hg : sxGd sxKw gh) : sxCtV sxKw gh ct898 := sxMeB_ok (cts := [ct897, ct797, ct326, ct277, ct882, ct892]) (cuts := cu898) (sp := []) 132 (by decide +kernel) hg (by decide) (by decide) (List.forall_mem_cons.mpr ⟨cv897 hg, (List.forall_mem_cons.mpr ⟨cv797 hg, (List.forall_mem_cons.mpr ⟨cv326 hg, (List.forall_mem_cons.mpr ⟨cv277 hg, (List.forall_mem_cons.mpr ⟨cv882 hg, (List.forall_mem_cons.mpr ⟨cv892 hg, (fun _ h => absurd h List.not_mem_nil)⟩)⟩)⟩)⟩)⟩)⟩)
/-- LotBeliefs.Survey.take -/
def ct899 : sxCt := (69, 5, (2, [(1, .ofNat 0, .ofNat 63)], [], [(0, .inl 74), (1, .inl 11), (2, .inl 23), (3, .inr (false, (1, .ofNat 0))), (4, .inl 32)], [], [], []), [(21, 0), (22, 0), (25, 0), (26, 0), (32, 1), (32, 2), (32, 3), (32, 4), (32, 9), (32, 11), (32, 12), (33, 0), (34, 0), (35, 0), (36, 0), (37, 0), (74, 2), (74, 3), (74, 6), (74, 7), (75, 0), (76, 0), (77, 0)], [
  (3, [(1, .ofNat 0, .ofNat 63), (2, .ofNat 0, .ofNat 63)], [(1, 2, .ofNat 0), (2, 1, .ofNat 0)], [], [], [(74, (0, .ofNat 1), .inr (false, (0, .ofNat 1))), (74, (0, .ofNat 2), .inr (false, (2, .ofNat 0)))], [])], [], 0, 0)
def cu899 : List sxCu := [
  (115, (7, [(1, .ofNat 0, .ofNat 63), (2, .ofNat 0, .ofNat 7), (3, .negSucc 0, .ofNat 5), (4, .ofNat 0, .ofNat 5040), (5, .ofNat 0, .ofNat 12), (6, .negSucc 2147483647, .ofNat 2147483647)], [(2, 5, .ofNat 0), (5, 2, .ofNat 5)], [(0, .inl 74), (1, .inl 11), (2, .inl 23), (3, .inr (false, (1, .ofNat 0))), (4, .inl 32), (5, .inr (false, (2, .ofNat 0))), (6, .inr (false, (3, .ofNat 0))), (7, .inr (false, (4, .ofNat 0)))], [], [(11, (0, .ofNat 2), .inr (false, (5, .ofNat 0))), (32, (0, .ofNat 0), .inl 11), (32, (0, .ofNat 1), .inl 23), (32, (0, .ofNat 2), .inr (false, (0, .ofNat 4))), (32, (0, .ofNat 3), .inr (false, (1, .ofNat 0))), (74, (0, .ofNat 0), .inr (false, (0, .ofNat 4))), (74, (0, .ofNat 1), .inr (false, (0, .ofNat 1))), (74, (0, .ofNat 2), .inr (false, (1, .ofNat 0))), (74, (0, .ofNat 3), .inl 75), (74, (0, .ofNat 5), .inr (false, (6, .ofNat 0))), (74, (0, .ofNat 7), .inl 77)], []), ((0, 4, .ofNat 5040), (0, 0, .ofNat 0), (0, 0, .ofNat 0)), 0, 0), 
  (34, (3, [(1, .ofNat 0, .ofNat 63), (2, .ofNat 0, .ofNat 128)], [], [(0, .inl 74), (1, .inl 11), (2, .inl 23), (3, .inr (false, (1, .ofNat 0))), (4, .inl 32), (5, .inr (false, (2, .ofNat 0)))], [], [(74, (0, .ofNat 1), .inr (false, (0, .ofNat 1))), (74, (0, .ofNat 2), .inr (false, (1, .ofNat 0))), (74, (0, .ofNat 5), .inr (false, (0, .negSucc 0)))], []), ((0, 2, .ofNat 5177), (0, 0, .ofNat 0), (0, 0, .ofNat 0)), 0, 0), 
  (75, (5, [(1, .ofNat 0, .ofNat 63), (2, .ofNat 0, .ofNat 7), (3, .ofNat 0, .ofNat 7), (4, .ofNat 0, .ofNat 12)], [(2, 4, .ofNat 0), (4, 2, .ofNat 5)], [(0, .inl 74), (1, .inl 11), (2, .inl 23), (3, .inr (false, (1, .ofNat 0))), (4, .inl 32), (5, .inr (false, (2, .ofNat 0))), (6, .inr (false, (3, .ofNat 0)))], [], [(11, (0, .ofNat 2), .inr (false, (4, .ofNat 0))), (74, (0, .ofNat 1), .inr (false, (0, .ofNat 1))), (74, (0, .ofNat 2), .inr (false, (1, .ofNat 0))), (74, (0, .ofNat 3), .inl 75), (74, (0, .ofNat 5), .inr (false, (0, .negSucc 0))), (74, (0, .ofNat 7), .inl 77)], []), ((0, 3, .ofNat 5048), (0, 0, .ofNat 0), (0, 0, .ofNat 0)), 0, 0)]
set_option maxRecDepth 1000000 in
theorem cv899 {gh : sxGh} (hg : sxGd sxKw gh) : sxCtV sxKw gh ct899 := sxMeB_ok (cts := [ct898, ct811, ct895, ct896]) (cuts := cu899) (sp := []) 179 (by decide +kernel) hg (by decide) (by decide) (List.forall_mem_cons.mpr ⟨cv898 hg, (List.forall_mem_cons.mpr ⟨cv811 hg, (List.forall_mem_cons.mpr ⟨cv895 hg, (List.forall_mem_cons.mpr ⟨cv896 hg, (fun _ h => absurd h List.not_mem_nil)⟩)⟩)⟩)⟩)
/-- LotBeliefs.Survey.take -/
def ct900 : sxCt := (69, 5, (2, [(1, .ofNat 0, .ofNat 63)], [], [(0, .inl 74), (1, .inl 11), (2, .inl 19), (3, .inr (false, (1, .ofNat 0))), (4, .inl 32)], [], [], []), [(21, 0), (22, 0), (25, 0), (26, 0), (32, 1), (32, 2), (32, 3), (32, 4), (32, 9), (32, 11), (32, 12), (33, 0), (34, 0), (35, 0), (36, 0), (37, 0), (74, 2), (74, 3), (74, 6), (74, 7), (75, 0), (76, 0), (77, 0)], [
  (3, [(1, .ofNat 0, .ofNat 63), (2, .ofNat 0, .ofNat 63)], [(1, 2, .ofNat 0), (2, 1, .ofNat 0)], [], [], [(74, (0, .ofNat 1), .inr (false, (0, .ofNat 1))), (74, (0, .ofNat 2), .inr (false, (2, .ofNat 0)))], [])], [], 0, 0)
def cu900 : List sxCu := [
  (115, (7, [(1, .ofNat 0, .ofNat 63), (2, .ofNat 0, .ofNat 7), (3, .negSucc 0, .ofNat 5), (4, .ofNat 0, .ofNat 5040), (5, .ofNat 0, .ofNat 12), (6, .negSucc 2147483647, .ofNat 2147483647)], [(2, 5, .ofNat 0), (5, 2, .ofNat 5)], [(0, .inl 74), (1, .inl 11), (2, .inl 19), (3, .inr (false, (1, .ofNat 0))), (4, .inl 32), (5, .inr (false, (2, .ofNat 0))), (6, .inr (false, (3, .ofNat 0))), (7, .inr (false, (4, .ofNat 0)))], [], [(11, (0, .ofNat 2), .inr (false, (5, .ofNat 0))), (32, (0, .ofNat 0), .inl 11), (32, (0, .ofNat 1), .inl 19), (32, (0, .ofNat 2), .inr (false, (0, .ofNat 4))), (32, (0, .ofNat 3), .inr (false, (1, .ofNat 0))), (74, (0, .ofNat 0), .inr (false, (0, .ofNat 4))), (74, (0, .ofNat 1), .inr (false, (0, .ofNat 1))), (74, (0, .ofNat 2), .inr (false, (1, .ofNat 0))), (74, (0, .ofNat 3), .inl 75), (74, (0, .ofNat 5), .inr (false, (6, .ofNat 0))), (74, (0, .ofNat 7), .inl 77)], []), ((0, 4, .ofNat 5040), (0, 0, .ofNat 0), (0, 0, .ofNat 0)), 0, 0), 
  (34, (3, [(1, .ofNat 0, .ofNat 63), (2, .ofNat 0, .ofNat 128)], [], [(0, .inl 74), (1, .inl 11), (2, .inl 19), (3, .inr (false, (1, .ofNat 0))), (4, .inl 32), (5, .inr (false, (2, .ofNat 0)))], [], [(74, (0, .ofNat 1), .inr (false, (0, .ofNat 1))), (74, (0, .ofNat 2), .inr (false, (1, .ofNat 0))), (74, (0, .ofNat 5), .inr (false, (0, .negSucc 0)))], []), ((0, 2, .ofNat 5177), (0, 0, .ofNat 0), (0, 0, .ofNat 0)), 0, 0), 
  (75, (5, [(1, .ofNat 0, .ofNat 63), (2, .ofNat 0, .ofNat 7), (3, .ofNat 0, .ofNat 7), (4, .ofNat 0, .ofNat 12)], [(2, 4, .ofNat 0), (4, 2, .ofNat 5)], [(0, .inl 74), (1, .inl 11), (2, .inl 19), (3, .inr (false, (1, .ofNat 0))), (4, .inl 32), (5, .inr (false, (2, .ofNat 0))), (6, .inr (false, (3, .ofNat 0)))], [], [(11, (0, .ofNat 2), .inr (false, (4, .ofNat 0))), (74, (0, .ofNat 1), .inr (false, (0, .ofNat 1))), (74, (0, .ofNat 2), .inr (false, (1, .ofNat 0))), (74, (0, .ofNat 3), .inl 75), (74, (0, .ofNat 5), .inr (false, (0, .negSucc 0))), (74, (0, .ofNat 7), .inl 77)], []), ((0, 3, .ofNat 5048), (0, 0, .ofNat 0), (0, 0, .ofNat 0)), 0, 0)]
set_option maxRecDepth 1000000 in
theorem cv900 {gh : sxGh} (hg : sxGd sxKw gh) : sxCtV sxKw gh ct900 := sxMeB_ok (cts := [ct898, ct811, ct895, ct896]) (cuts := cu900) (sp := []) 179 (by decide +kernel) hg (by decide) (by decide) (List.forall_mem_cons.mpr ⟨cv898 hg, (List.forall_mem_cons.mpr ⟨cv811 hg, (List.forall_mem_cons.mpr ⟨cv895 hg, (List.forall_mem_cons.mpr ⟨cv896 hg, (fun _ h => absurd h List.not_mem_nil)⟩)⟩)⟩)⟩)
/-- LotBeliefs.Survey.digits -/
def ct930 : sxCt := (71, 0, (2, [(1, .ofNat 0, .ofNat 7)], [], [(0, .inl 70), (1, .inr (false, (1, .ofNat 0)))], [], [], []), [], [
  (3, [(1, .ofNat 0, .ofNat 7), (2, .negSucc 9223372036854775807, .ofNat 9223372036854775807)], [], [], [.inr (true, (2, .ofNat 0))], [], [])], [], 0, 0)
def cu930 : List sxCu := [
  (5, (4, [(1, .ofNat 0, .ofNat 7), (2, .negSucc 9223372036854775807, .ofNat 9223372036854775807), (3, .ofNat 0, .ofNat 7)], [], [(0, .inl 70), (1, .inr (false, (1, .ofNat 0))), (2, .inr (true, (2, .ofNat 0))), (4, .inr (false, (3, .ofNat 0)))], [], [], []), ((0, 3, .ofNat 7), (0, 0, .ofNat 0), (0, 0, .ofNat 0)), 0, 0)]
set_option maxRecDepth 1000000 in
theorem cv930 {gh : sxGh} (hg : sxGd sxKw gh) : sxCtV sxKw gh ct930 := sxMeB_ok (cts := []) (cuts := cu930) (sp := []) 81 (by decide +kernel) hg (by decide) (by decide) (fun _ h => absurd h List.not_mem_nil)
/-- LotBeliefs.Survey.note -/
def ct931 : sxCt := (70, 1, (4, [(1, .ofNat 0, .ofNat 4095), (2, .negSucc 2147483647, .ofNat 2147483647), (3, .ofNat 0, .ofNat 7)], [], [(0, .inl 70), (1, .inr (false, (1, .ofNat 0))), (2, .inr (false, (2, .ofNat 0))), (3, .inr (false, (3, .ofNat 0)))], [], [], []), [(70, 6), (70, 7), (71, 0), (72, 0)], [
  (5, [(1, .ofNat 0, .ofNat 4095), (2, .negSucc 2147483647, .ofNat 2147483647), (3, .ofNat 0, .ofNat 7), (4, .negSucc 2147483647, .ofNat 2147483647)], [(2, 4, .ofNat 0)], [], [], [(70, (0, .ofNat 5), .inr (false, (4, .ofNat 0)))], [])], [], 0, 0)
def cu931 : List sxCu := []
set_option maxRecDepth 1000000 in
theorem cv931 {gh : sxGh} (hg : sxGd sxKw gh) : sxCtV sxKw gh ct931 := sxMeB_ok (cts := [ct930]) (cuts := cu931) (sp := []) 141 (by decide +kernel) hg (by decide) (by decide) (List.forall_mem_cons.mpr ⟨cv930 hg, (fun _ h => absurd h List.not_mem_nil)⟩)
/-- LotBeliefs.Survey.advance -/
def ct932 : sxCt := (72, 1, (2, [(1, .ofNat 0, .ofNat 7)], [], [(0, .inl 70), (1, .inr (false, (1, .ofNat 0)))], [], [], []), [(73, 0)], [
  (3, [(1, .ofNat 0, .ofNat 7), (2, .negSucc 0, .ofNat 5)], [(2, 1, .negSucc 0)], [], [.inr (false, (2, .ofNat 0))], [], [])], [], 0, 0)
def cu932 : List sxCu := [
  (4, (3, [(1, .ofNat 0, .ofNat 7), (2, .negSucc 1, .ofNat 5)], [(2, 1, .negSucc 1)], [(0, .inl 70), (1, .inr (false, (1, .ofNat 0))), (2, .inr (false, (2, .ofNat 0)))], [], [], []), ((2, 0, .ofNat 15), (0, 0, .ofNat 0), (0, 0, .ofNat 0)), 0, 0), 
  (41, (4, [(1, .ofNat 2, .ofNat 7), (2, .ofNat 0, .ofNat 5), (3, .ofNat 0, .ofNat 6)], [(2, 1, .negSucc 1), (3, 1, .negSucc 0)], [(0, .inl 70), (1, .inr (false, (1, .ofNat 0))), (2, .inr (false, (2, .ofNat 0))), (3, .inr (false, (3, .ofNat 0)))], [], [(70, (0, .ofNat 7), .inl 73)], []), ((3, 0, .ofNat 6), (0, 0, .ofNat 0), (0, 0, .ofNat 0)), 0, 0), 
  (83, (6, [(1, .ofNat 2, .ofNat 7), (2, .ofNat 0, .ofNat 5), (3, .ofNat 0, .ofNat 6), (4, .ofNat 1, .ofNat 6), (5, .ofNat 1, .ofNat 6)], [(2, 1, .negSucc 1), (2, 4, .negSucc 0), (2, 5, .negSucc 0), (3, 1, .negSucc 0), (4, 1, .negSucc 0), (5, 1, .negSucc 0)], [(0, .inl 70), (1, .inr (false, (1, .ofNat 0))), (2, .inr (false, (2, .ofNat 0))), (3, .inr (false, (3, .ofNat 0))), (4, .inr (false, (4, .ofNat 0))), (5, .inr (false, (5, .ofNat 0)))], [], [(70, (0, .ofNat 7), .inl 73)], []), ((0, 4, .ofNat 6), (0, 0, .ofNat 0), (0, 0, .ofNat 0)), 0, 0)]
set_option maxRecDepth 1000000 in
theorem cv932 {gh : sxGh} (hg : sxGd sxKw gh) : sxCtV sxKw gh ct932 := sxMeB_ok (cts := []) (cuts := cu932) (sp := []) 196 (by decide +kernel) hg (by decide) (by decide) (fun _ h => absurd h List.not_mem_nil)
/-- LotBeliefs.Course.goBack -/
def ct933 : sxCt := (3, 1, (2, [(1, .ofNat 0, .ofNat 5)], [], [(0, .inl 32), (1, .inl 73), (2, .inr (false, (1, .ofNat 0)))], [], [], []), [(32, 11), (32, 12), (33, 0), (34, 0), (35, 0), (36, 0), (37, 0)], [
  (3, [(1, .ofNat 0, .ofNat 5), (2, .ofNat 0, .ofNat 17)], [], [], [], [(32, (0, .ofNat 10), .inr (false, (2, .ofNat 0)))], [])], [], 0, 0)
def cu933 : List sxCu := [
  (12, (3, [(1, .ofNat 0, .ofNat 5), (2, .ofNat 0, .ofNat 17)], [], [(0, .inl 32), (1, .inl 73), (2, .inr (false, (1, .ofNat 0))), (3, .inr (false, (2, .ofNat 0)))], [], [(32, (0, .ofNat 10), .inr (false, (0, .ofNat 0))), (32, (0, .ofNat 11), .inr (false, (0, .ofNat 0)))], []), ((0, 2, .ofNat 23), (0, 0, .ofNat 0), (0, 0, .ofNat 0)), 0, 0), 
  (46, (4, [(1, .ofNat 0, .ofNat 5), (2, .ofNat 0, .ofNat 5), (3, .ofNat 0, .ofNat 17)], [], [(0, .inl 32), (1, .inl 73), (2, .inr (false, (1, .ofNat 0))), (3, .inr (false, (2, .ofNat 0)))], [], [(32, (0, .ofNat 4), .inl 33), (32, (0, .ofNat 10), .inr (false, (3, .ofNat 0)))], []), ((0, 2, .ofNat 5), (0, 0, .ofNat 0), (0, 0, .ofNat 0)), 0, 0)]
set_option maxRecDepth 1000000 in
theorem cv933 {gh : sxGh} (hg : sxGd sxKw gh) : sxCtV sxKw gh ct933 := sxMeB_ok (cts := [ct797]) (cuts := cu933) (sp := []) 123 (by decide +kernel) hg (by decide) (by decide) (List.forall_mem_cons.mpr ⟨cv797 hg, (fun _ h => absurd h List.not_mem_nil)⟩)
/-- LotBeliefs.Course.play -/
def ct934 : sxCt := (2, 4, (3, [(1, .ofNat 0, .ofNat 7), (2, .ofNat 0, .ofNat 5)], [], [(0, .inl 32), (1, .inl 73), (2, .inr (false, (1, .ofNat 0))), (3, .inr (false, (2, .ofNat 0)))], [], [], []), [(21, 0), (22, 0), (25, 0), (26, 0), (32, 9), (32, 11), (32, 12), (33, 0), (34, 0), (35, 0), (36, 0), (37, 0)], [
  (5, [(1, .ofNat 0, .ofNat 7), (2, .ofNat 0, .ofNat 5), (3, .ofNat 0, .ofNat 4095), (4, .negSucc 2147483647, .ofNat 2147483647)], [], [], [], [(32, (0, .ofNat 8), .inr (false, (3, .ofNat 0))), (32, (0, .ofNat 11), .inr (false, (4, .ofNat 0)))], [])], [], 0, 0)
def cu934 : List sxCu := [
  (9, (4, [(1, .ofNat 0, .ofNat 7), (2, .ofNat 0, .ofNat 5), (3, .ofNat 0, .ofNat 7)], [(2, 3, .ofNat 0), (3, 1, .ofNat 5)], [(0, .inl 32), (1, .inl 73), (2, .inr (false, (1, .ofNat 0))), (3, .inr (false, (2, .ofNat 0))), (4, .inr (false, (3, .ofNat 0)))], [], [], []), ((0, 3, .ofNat 7), (0, 0, .ofNat 0), (0, 0, .ofNat 0)), 0, 0)]
set_option maxRecDepth 1000000 in
theorem cv934 {gh : sxGh} (hg : sxGd sxKw gh) : sxCtV sxKw gh ct934 := sxMeB_ok (cts := [ct933, ct797, ct326, ct277, ct882, ct892]) (cuts := cu934) (sp := []) 132 (by decide +kernel) hg (by decide) (by decide) (List.forall_mem_cons.mpr ⟨cv933 hg, (List.forall_mem_cons.mpr ⟨cv797 hg, (List.forall_mem_cons.mpr ⟨cv326 hg, (List.forall_mem_cons.mpr ⟨cv277 hg, (List.forall_mem_cons.mpr ⟨cv882 hg, (List.forall_mem_cons.mpr ⟨cv892 hg, (fun _ h => absurd h List.not_mem_nil)⟩)⟩)⟩)⟩)⟩)⟩)
/-- LotBeliefs.Survey.take -/
def ct935 : sxCt := (69, 5, (2, [(1, .ofNat 0, .ofNat 63)], [], [(0, .inl 70), (1, .inl 11), (2, .inl 23), (3, .inr (false, (1, .ofNat 0))), (4, .inl 32)], [], [], []), [(21, 0), (22, 0), (25, 0), (26, 0), (32, 1), (32, 2), (32, 3), (32, 4), (32, 9), (32, 11), (32, 12), (33, 0), (34, 0), (35, 0), (36, 0), (37, 0), (70, 2), (70, 3), (70, 6), (70, 7), (71, 0), (72, 0), (73, 0)], [
  (3, [(1, .ofNat 0, .ofNat 63), (2, .ofNat 0, .ofNat 63)], [(1, 2, .ofNat 0), (2, 1, .ofNat 0)], [], [], [(70, (0, .ofNat 1), .inr (false, (0, .ofNat 1))), (70, (0, .ofNat 2), .inr (false, (2, .ofNat 0)))], [])], [], 0, 0)
def cu935 : List sxCu := [
  (115, (7, [(1, .ofNat 0, .ofNat 63), (2, .ofNat 0, .ofNat 7), (3, .negSucc 0, .ofNat 5), (4, .ofNat 0, .ofNat 5040), (5, .ofNat 0, .ofNat 12), (6, .negSucc 2147483647, .ofNat 2147483647)], [(2, 5, .ofNat 0), (5, 2, .ofNat 5)], [(0, .inl 70), (1, .inl 11), (2, .inl 23), (3, .inr (false, (1, .ofNat 0))), (4, .inl 32), (5, .inr (false, (2, .ofNat 0))), (6, .inr (false, (3, .ofNat 0))), (7, .inr (false, (4, .ofNat 0)))], [], [(11, (0, .ofNat 2), .inr (false, (5, .ofNat 0))), (32, (0, .ofNat 0), .inl 11), (32, (0, .ofNat 1), .inl 23), (32, (0, .ofNat 2), .inr (false, (0, .ofNat 3))), (32, (0, .ofNat 3), .inr (false, (1, .ofNat 0))), (70, (0, .ofNat 0), .inr (false, (0, .ofNat 3))), (70, (0, .ofNat 1), .inr (false, (0, .ofNat 1))), (70, (0, .ofNat 2), .inr (false, (1, .ofNat 0))), (70, (0, .ofNat 3), .inl 71), (70, (0, .ofNat 5), .inr (false, (6, .ofNat 0))), (70, (0, .ofNat 7), .inl 73)], []), ((0, 4, .ofNat 5040), (0, 0, .ofNat 0), (0, 0, .ofNat 0)), 0, 0), 
  (34, (3, [(1, .ofNat 0, .ofNat 63), (2, .ofNat 0, .ofNat 128)], [], [(0, .inl 70), (1, .inl 11), (2, .inl 23), (3, .inr (false, (1, .ofNat 0))), (4, .inl 32), (5, .inr (false, (2, .ofNat 0)))], [], [(70, (0, .ofNat 1), .inr (false, (0, .ofNat 1))), (70, (0, .ofNat 2), .inr (false, (1, .ofNat 0))), (70, (0, .ofNat 5), .inr (false, (0, .negSucc 0)))], []), ((0, 2, .ofNat 5177), (0, 0, .ofNat 0), (0, 0, .ofNat 0)), 0, 0), 
  (75, (5, [(1, .ofNat 0, .ofNat 63), (2, .ofNat 0, .ofNat 7), (3, .ofNat 0, .ofNat 7), (4, .ofNat 0, .ofNat 12)], [(2, 4, .ofNat 0), (4, 2, .ofNat 5)], [(0, .inl 70), (1, .inl 11), (2, .inl 23), (3, .inr (false, (1, .ofNat 0))), (4, .inl 32), (5, .inr (false, (2, .ofNat 0))), (6, .inr (false, (3, .ofNat 0)))], [], [(11, (0, .ofNat 2), .inr (false, (4, .ofNat 0))), (70, (0, .ofNat 1), .inr (false, (0, .ofNat 1))), (70, (0, .ofNat 2), .inr (false, (1, .ofNat 0))), (70, (0, .ofNat 3), .inl 71), (70, (0, .ofNat 5), .inr (false, (0, .negSucc 0))), (70, (0, .ofNat 7), .inl 73)], []), ((0, 3, .ofNat 5048), (0, 0, .ofNat 0), (0, 0, .ofNat 0)), 0, 0)]
set_option maxRecDepth 1000000 in
theorem cv935 {gh : sxGh} (hg : sxGd sxKw gh) : sxCtV sxKw gh ct935 := sxMeB_ok (cts := [ct934, ct811, ct931, ct932]) (cuts := cu935) (sp := []) 179 (by decide +kernel) hg (by decide) (by decide) (List.forall_mem_cons.mpr ⟨cv934 hg, (List.forall_mem_cons.mpr ⟨cv811 hg, (List.forall_mem_cons.mpr ⟨cv931 hg, (List.forall_mem_cons.mpr ⟨cv932 hg, (fun _ h => absurd h List.not_mem_nil)⟩)⟩)⟩)⟩)
/-- LotBeliefs.Survey.take -/
def ct936 : sxCt := (69, 5, (2, [(1, .ofNat 0, .ofNat 63)], [], [(0, .inl 70), (1, .inl 11), (2, .inl 19), (3, .inr (false, (1, .ofNat 0))), (4, .inl 32)], [], [], []), [(21, 0), (22, 0), (25, 0), (26, 0), (32, 1), (32, 2), (32, 3), (32, 4), (32, 9), (32, 11), (32, 12), (33, 0), (34, 0), (35, 0), (36, 0), (37, 0), (70, 2), (70, 3), (70, 6), (70, 7), (71, 0), (72, 0), (73, 0)], [
  (3, [(1, .ofNat 0, .ofNat 63), (2, .ofNat 0, .ofNat 63)], [(1, 2, .ofNat 0), (2, 1, .ofNat 0)], [], [], [(70, (0, .ofNat 1), .inr (false, (0, .ofNat 1))), (70, (0, .ofNat 2), .inr (false, (2, .ofNat 0)))], [])], [], 0, 0)
def cu936 : List sxCu := [
  (115, (7, [(1, .ofNat 0, .ofNat 63), (2, .ofNat 0, .ofNat 7), (3, .negSucc 0, .ofNat 5), (4, .ofNat 0, .ofNat 5040), (5, .ofNat 0, .ofNat 12), (6, .negSucc 2147483647, .ofNat 2147483647)], [(2, 5, .ofNat 0), (5, 2, .ofNat 5)], [(0, .inl 70), (1, .inl 11), (2, .inl 19), (3, .inr (false, (1, .ofNat 0))), (4, .inl 32), (5, .inr (false, (2, .ofNat 0))), (6, .inr (false, (3, .ofNat 0))), (7, .inr (false, (4, .ofNat 0)))], [], [(11, (0, .ofNat 2), .inr (false, (5, .ofNat 0))), (32, (0, .ofNat 0), .inl 11), (32, (0, .ofNat 1), .inl 19), (32, (0, .ofNat 2), .inr (false, (0, .ofNat 3))), (32, (0, .ofNat 3), .inr (false, (1, .ofNat 0))), (70, (0, .ofNat 0), .inr (false, (0, .ofNat 3))), (70, (0, .ofNat 1), .inr (false, (0, .ofNat 1))), (70, (0, .ofNat 2), .inr (false, (1, .ofNat 0))), (70, (0, .ofNat 3), .inl 71), (70, (0, .ofNat 5), .inr (false, (6, .ofNat 0))), (70, (0, .ofNat 7), .inl 73)], []), ((0, 4, .ofNat 5040), (0, 0, .ofNat 0), (0, 0, .ofNat 0)), 0, 0), 
  (34, (3, [(1, .ofNat 0, .ofNat 63), (2, .ofNat 0, .ofNat 128)], [], [(0, .inl 70), (1, .inl 11), (2, .inl 19), (3, .inr (false, (1, .ofNat 0))), (4, .inl 32), (5, .inr (false, (2, .ofNat 0)))], [], [(70, (0, .ofNat 1), .inr (false, (0, .ofNat 1))), (70, (0, .ofNat 2), .inr (false, (1, .ofNat 0))), (70, (0, .ofNat 5), .inr (false, (0, .negSucc 0)))], []), ((0, 2, .ofNat 5177), (0, 0, .ofNat 0), (0, 0, .ofNat 0)), 0, 0), 
  (75, (5, [(1, .ofNat 0, .ofNat 63), (2, .ofNat 0, .ofNat 7), (3, .ofNat 0, .ofNat 7), (4, .ofNat 0, .ofNat 12)], [(2, 4, .ofNat 0), (4, 2, .ofNat 5)], [(0, .inl 70), (1, .inl 11), (2, .inl 19), (3, .inr (false, (1, .ofNat 0))), (4, .inl 32), (5, .inr (false, (2, .ofNat 0))), (6, .inr (false, (3, .ofNat 0)))], [], [(11, (0, .ofNat 2), .inr (false, (4, .ofNat 0))), (70, (0, .ofNat 1), .inr (false, (0, .ofNat 1))), (70, (0, .ofNat 2), .inr (false, (1, .ofNat 0))), (70, (0, .ofNat 3), .inl 71), (70, (0, .ofNat 5), .inr (false, (0, .negSucc 0))), (70, (0, .ofNat 7), .inl 73)], []), ((0, 3, .ofNat 5048), (0, 0, .ofNat 0), (0, 0, .ofNat 0)), 0, 0)]
set_option maxRecDepth 1000000 in
theorem cv936 {gh : sxGh} (hg : sxGd sxKw gh) : sxCtV sxKw gh ct936 := sxMeB_ok (cts := [ct934, ct811, ct931, ct932]) (cuts := cu936) (sp := []) 179 (by decide +kernel) hg (by decide) (by decide) (List.forall_mem_cons.mpr ⟨cv934 hg, (List.forall_mem_cons.mpr ⟨cv811 hg, (List.forall_mem_cons.mpr ⟨cv931 hg, (List.forall_mem_cons.mpr ⟨cv932 hg, (fun _ h => absurd h List.not_mem_nil)⟩)⟩)⟩)⟩)
/-- LotBeliefs.Survey.digits -/
def ct966 : sxCt := (71, 0, (2, [(1, .ofNat 0, .ofNat 7)], [], [(0, .inl 66), (1, .inr (false, (1, .ofNat 0)))], [], [], []), [], [
  (3, [(1, .ofNat 0, .ofNat 7), (2, .negSucc 9223372036854775807, .ofNat 9223372036854775807)], [], [], [.inr (true, (2, .ofNat 0))], [], [])], [], 0, 0)
def cu966 : List sxCu := [
  (5, (4, [(1, .ofNat 0, .ofNat 7), (2, .negSucc 9223372036854775807, .ofNat 9223372036854775807), (3, .ofNat 0, .ofNat 7)], [], [(0, .inl 66), (1, .inr (false, (1, .ofNat 0))), (2, .inr (true, (2, .ofNat 0))), (4, .inr (false, (3, .ofNat 0)))], [], [], []), ((0, 3, .ofNat 7), (0, 0, .ofNat 0), (0, 0, .ofNat 0)), 0, 0)]
set_option maxRecDepth 1000000 in
theorem cv966 {gh : sxGh} (hg : sxGd sxKw gh) : sxCtV sxKw gh ct966 := sxMeB_ok (cts := []) (cuts := cu966) (sp := []) 81 (by decide +kernel) hg (by decide) (by decide) (fun _ h => absurd h List.not_mem_nil)
/-- LotBeliefs.Survey.note -/
def ct967 : sxCt := (70, 1, (4, [(1, .ofNat 0, .ofNat 4095), (2, .negSucc 2147483647, .ofNat 2147483647), (3, .ofNat 0, .ofNat 7)], [], [(0, .inl 66), (1, .inr (false, (1, .ofNat 0))), (2, .inr (false, (2, .ofNat 0))), (3, .inr (false, (3, .ofNat 0)))], [], [], []), [(66, 6), (66, 7), (67, 0), (68, 0)], [
  (5, [(1, .ofNat 0, .ofNat 4095), (2, .negSucc 2147483647, .ofNat 2147483647), (3, .ofNat 0, .ofNat 7), (4, .negSucc 2147483647, .ofNat 2147483647)], [(2, 4, .ofNat 0)], [], [], [(66, (0, .ofNat 5), .inr (false, (4, .ofNat 0)))], [])], [], 0, 0)
def cu967 : List sxCu := []
set_option maxRecDepth 1000000 in
theorem cv967 {gh : sxGh} (hg : sxGd sxKw gh) : sxCtV sxKw gh ct967 := sxMeB_ok (cts := [ct966]) (cuts := cu967) (sp := []) 141 (by decide +kernel) hg (by decide) (by decide) (List.forall_mem_cons.mpr ⟨cv966 hg, (fun _ h => absurd h List.not_mem_nil)⟩)
/-- LotBeliefs.Survey.advance -/
def ct968 : sxCt := (72, 1, (2, [(1, .ofNat 0, .ofNat 7)], [], [(0, .inl 66), (1, .inr (false, (1, .ofNat 0)))], [], [], []), [(69, 0)], [
  (3, [(1, .ofNat 0, .ofNat 7), (2, .negSucc 0, .ofNat 5)], [(2, 1, .negSucc 0)], [], [.inr (false, (2, .ofNat 0))], [], [])], [], 0, 0)
def cu968 : List sxCu := [
  (4, (3, [(1, .ofNat 0, .ofNat 7), (2, .negSucc 1, .ofNat 5)], [(2, 1, .negSucc 1)], [(0, .inl 66), (1, .inr (false, (1, .ofNat 0))), (2, .inr (false, (2, .ofNat 0)))], [], [], []), ((2, 0, .ofNat 15), (0, 0, .ofNat 0), (0, 0, .ofNat 0)), 0, 0), 
  (41, (4, [(1, .ofNat 2, .ofNat 7), (2, .ofNat 0, .ofNat 5), (3, .ofNat 0, .ofNat 6)], [(2, 1, .negSucc 1), (3, 1, .negSucc 0)], [(0, .inl 66), (1, .inr (false, (1, .ofNat 0))), (2, .inr (false, (2, .ofNat 0))), (3, .inr (false, (3, .ofNat 0)))], [], [(66, (0, .ofNat 7), .inl 69)], []), ((3, 0, .ofNat 6), (0, 0, .ofNat 0), (0, 0, .ofNat 0)), 0, 0), 
  (83, (6, [(1, .ofNat 2, .ofNat 7), (2, .ofNat 0, .ofNat 5), (3, .ofNat 0, .ofNat 6), (4, .ofNat 1, .ofNat 6), (5, .ofNat 1, .ofNat 6)], [(2, 1, .negSucc 1), (2, 4, .negSucc 0), (2, 5, .negSucc 0), (3, 1, .negSucc 0), (4, 1, .negSucc 0), (5, 1, .negSucc 0)], [(0, .inl 66), (1, .inr (false, (1, .ofNat 0))), (2, .inr (false, (2, .ofNat 0))), (3, .inr (false, (3, .ofNat 0))), (4, .inr (false, (4, .ofNat 0))), (5, .inr (false, (5, .ofNat 0)))], [], [(66, (0, .ofNat 7), .inl 69)], []), ((0, 4, .ofNat 6), (0, 0, .ofNat 0), (0, 0, .ofNat 0)), 0, 0)]
set_option maxRecDepth 1000000 in
theorem cv968 {gh : sxGh} (hg : sxGd sxKw gh) : sxCtV sxKw gh ct968 := sxMeB_ok (cts := []) (cuts := cu968) (sp := []) 196 (by decide +kernel) hg (by decide) (by decide) (fun _ h => absurd h List.not_mem_nil)
/-- LotBeliefs.Course.goBack -/
def ct969 : sxCt := (3, 1, (2, [(1, .ofNat 0, .ofNat 5)], [], [(0, .inl 32), (1, .inl 69), (2, .inr (false, (1, .ofNat 0)))], [], [], []), [(32, 11), (32, 12), (33, 0), (34, 0), (35, 0), (36, 0), (37, 0)], [
  (3, [(1, .ofNat 0, .ofNat 5), (2, .ofNat 0, .ofNat 17)], [], [], [], [(32, (0, .ofNat 10), .inr (false, (2, .ofNat 0)))], [])], [], 0, 0)
def cu969 : List sxCu := [
  (12, (3, [(1, .ofNat 0, .ofNat 5), (2, .ofNat 0, .ofNat 17)], [], [(0, .inl 32), (1, .inl 69), (2, .inr (false, (1, .ofNat 0))), (3, .inr (false, (2, .ofNat 0)))], [], [(32, (0, .ofNat 10), .inr (false, (0, .ofNat 0))), (32, (0, .ofNat 11), .inr (false, (0, .ofNat 0)))], []), ((0, 2, .ofNat 23), (0, 0, .ofNat 0), (0, 0, .ofNat 0)), 0, 0), 
  (46, (4, [(1, .ofNat 0, .ofNat 5), (2, .ofNat 0, .ofNat 5), (3, .ofNat 0, .ofNat 17)], [], [(0, .inl 32), (1, .inl 69), (2, .inr (false, (1, .ofNat 0))), (3, .inr (false, (2, .ofNat 0)))], [], [(32, (0, .ofNat 4), .inl 33), (32, (0, .ofNat 10), .inr (false, (3, .ofNat 0)))], []), ((0, 2, .ofNat 5), (0, 0, .ofNat 0), (0, 0, .ofNat 0)), 0, 0)]
set_option maxRecDepth 1000000 in
theorem cv969 {gh : sxGh} (hg : sxGd sxKw gh) : sxCtV sxKw gh ct969 := sxMeB_ok (cts := [ct797]) (cuts := cu969) (sp := []) 123 (by decide +kernel) hg (by decide) (by decide) (List.forall_mem_cons.mpr ⟨cv797 hg, (fun _ h => absurd h List.not_mem_nil)⟩)
/-- LotBeliefs.Course.play -/
def ct970 : sxCt := (2, 4, (3, [(1, .ofNat 0, .ofNat 7), (2, .ofNat 0, .ofNat 5)], [], [(0, .inl 32), (1, .inl 69), (2, .inr (false, (1, .ofNat 0))), (3, .inr (false, (2, .ofNat 0)))], [], [], []), [(21, 0), (22, 0), (25, 0), (26, 0), (32, 9), (32, 11), (32, 12), (33, 0), (34, 0), (35, 0), (36, 0), (37, 0)], [
  (5, [(1, .ofNat 0, .ofNat 7), (2, .ofNat 0, .ofNat 5), (3, .ofNat 0, .ofNat 4095), (4, .negSucc 2147483647, .ofNat 2147483647)], [], [], [], [(32, (0, .ofNat 8), .inr (false, (3, .ofNat 0))), (32, (0, .ofNat 11), .inr (false, (4, .ofNat 0)))], [])], [], 0, 0)
def cu970 : List sxCu := [
  (9, (4, [(1, .ofNat 0, .ofNat 7), (2, .ofNat 0, .ofNat 5), (3, .ofNat 0, .ofNat 7)], [(2, 3, .ofNat 0), (3, 1, .ofNat 5)], [(0, .inl 32), (1, .inl 69), (2, .inr (false, (1, .ofNat 0))), (3, .inr (false, (2, .ofNat 0))), (4, .inr (false, (3, .ofNat 0)))], [], [], []), ((0, 3, .ofNat 7), (0, 0, .ofNat 0), (0, 0, .ofNat 0)), 0, 0)]
set_option maxRecDepth 1000000 in
theorem cv970 {gh : sxGh} (hg : sxGd sxKw gh) : sxCtV sxKw gh ct970 := sxMeB_ok (cts := [ct969, ct797, ct326, ct277, ct882, ct892]) (cuts := cu970) (sp := []) 132 (by decide +kernel) hg (by decide) (by decide) (List.forall_mem_cons.mpr ⟨cv969 hg, (List.forall_mem_cons.mpr ⟨cv797 hg, (List.forall_mem_cons.mpr ⟨cv326 hg, (List.forall_mem_cons.mpr ⟨cv277 hg, (List.forall_mem_cons.mpr ⟨cv882 hg, (List.forall_mem_cons.mpr ⟨cv892 hg, (fun _ h => absurd h List.not_mem_nil)⟩)⟩)⟩)⟩)⟩)⟩)
/-- LotBeliefs.Survey.take -/
def ct971 : sxCt := (69, 5, (2, [(1, .ofNat 0, .ofNat 63)], [], [(0, .inl 66), (1, .inl 11), (2, .inl 23), (3, .inr (false, (1, .ofNat 0))), (4, .inl 32)], [], [], []), [(21, 0), (22, 0), (25, 0), (26, 0), (32, 1), (32, 2), (32, 3), (32, 4), (32, 9), (32, 11), (32, 12), (33, 0), (34, 0), (35, 0), (36, 0), (37, 0), (66, 2), (66, 3), (66, 6), (66, 7), (67, 0), (68, 0), (69, 0)], [
  (3, [(1, .ofNat 0, .ofNat 63), (2, .ofNat 0, .ofNat 63)], [(1, 2, .ofNat 0), (2, 1, .ofNat 0)], [], [], [(66, (0, .ofNat 1), .inr (false, (0, .ofNat 1))), (66, (0, .ofNat 2), .inr (false, (2, .ofNat 0)))], [])], [], 0, 0)
def cu971 : List sxCu := [
  (115, (7, [(1, .ofNat 0, .ofNat 63), (2, .ofNat 0, .ofNat 7), (3, .negSucc 0, .ofNat 5), (4, .ofNat 0, .ofNat 5040), (5, .ofNat 0, .ofNat 12), (6, .negSucc 2147483647, .ofNat 2147483647)], [(2, 5, .ofNat 0), (5, 2, .ofNat 5)], [(0, .inl 66), (1, .inl 11), (2, .inl 23), (3, .inr (false, (1, .ofNat 0))), (4, .inl 32), (5, .inr (false, (2, .ofNat 0))), (6, .inr (false, (3, .ofNat 0))), (7, .inr (false, (4, .ofNat 0)))], [], [(11, (0, .ofNat 2), .inr (false, (5, .ofNat 0))), (32, (0, .ofNat 0), .inl 11), (32, (0, .ofNat 1), .inl 23), (32, (0, .ofNat 2), .inr (false, (0, .ofNat 2))), (32, (0, .ofNat 3), .inr (false, (1, .ofNat 0))), (66, (0, .ofNat 0), .inr (false, (0, .ofNat 2))), (66, (0, .ofNat 1), .inr (false, (0, .ofNat 1))), (66, (0, .ofNat 2), .inr (false, (1, .ofNat 0))), (66, (0, .ofNat 3), .inl 67), (66, (0, .ofNat 5), .inr (false, (6, .ofNat 0))), (66, (0, .ofNat 7), .inl 69)], []), ((0, 4, .ofNat 5040), (0, 0, .ofNat 0), (0, 0, .ofNat 0)), 0, 0), 
  (34, (3, [(1, .ofNat 0, .ofNat 63), (2, .ofNat 0, .ofNat 128)], [], [(0, .inl 66), (1, .inl 11), (2, .inl 23), (3, .inr (false, (1, .ofNat 0))), (4, .inl 32), (5, .inr (false, (2, .ofNat 0)))], [], [(66, (0, .ofNat 1), .inr (false, (0, .ofNat 1))), (66, (0, .ofNat 2), .inr (false, (1, .ofNat 0))), (66, (0, .ofNat 5), .inr (false, (0, .negSucc 0)))], []), ((0, 2, .ofNat 5177), (0, 0, .ofNat 0), (0, 0, .ofNat 0)), 0, 0), 
  (75, (5, [(1, .ofNat 0, .ofNat 63), (2, .ofNat 0, .ofNat 7), (3, .ofNat 0, .ofNat 7), (4, .ofNat 0, .ofNat 12)], [(2, 4, .ofNat 0), (4, 2, .ofNat 5)], [(0, .inl 66), (1, .inl 11), (2, .inl 23), (3, .inr (false, (1, .ofNat 0))), (4, .inl 32), (5, .inr (false, (2, .ofNat 0))), (6, .inr (false, (3, .ofNat 0)))], [], [(11, (0, .ofNat 2), .inr (false, (4, .ofNat 0))), (66, (0, .ofNat 1), .inr (false, (0, .ofNat 1))), (66, (0, .ofNat 2), .inr (false, (1, .ofNat 0))), (66, (0, .ofNat 3), .inl 67), (66, (0, .ofNat 5), .inr (false, (0, .negSucc 0))), (66, (0, .ofNat 7), .inl 69)], []), ((0, 3, .ofNat 5048), (0, 0, .ofNat 0), (0, 0, .ofNat 0)), 0, 0)]
set_option maxRecDepth 1000000 in
theorem cv971 {gh : sxGh} (hg : sxGd sxKw gh) : sxCtV sxKw gh ct971 := sxMeB_ok (cts := [ct970, ct811, ct967, ct968]) (cuts := cu971) (sp := []) 179 (by decide +kernel) hg (by decide) (by decide) (List.forall_mem_cons.mpr ⟨cv970 hg, (List.forall_mem_cons.mpr ⟨cv811 hg, (List.forall_mem_cons.mpr ⟨cv967 hg, (List.forall_mem_cons.mpr ⟨cv968 hg, (fun _ h => absurd h List.not_mem_nil)⟩)⟩)⟩)⟩)
/-- LotBeliefs.Survey.take -/
def ct972 : sxCt := (69, 5, (2, [(1, .ofNat 0, .ofNat 63)], [], [(0, .inl 66), (1, .inl 11), (2, .inl 19), (3, .inr (false, (1, .ofNat 0))), (4, .inl 32)], [], [], []), [(21, 0), (22, 0), (25, 0), (26, 0), (32, 1), (32, 2), (32, 3), (32, 4), (32, 9), (32, 11), (32, 12), (33, 0), (34, 0), (35, 0), (36, 0), (37, 0), (66, 2), (66, 3), (66, 6), (66, 7), (67, 0), (68, 0), (69, 0)], [
  (3, [(1, .ofNat 0, .ofNat 63), (2, .ofNat 0, .ofNat 63)], [(1, 2, .ofNat 0), (2, 1, .ofNat 0)], [], [], [(66, (0, .ofNat 1), .inr (false, (0, .ofNat 1))), (66, (0, .ofNat 2), .inr (false, (2, .ofNat 0)))], [])], [], 0, 0)
def cu972 : List sxCu := [
  (115, (7, [(1, .ofNat 0, .ofNat 63), (2, .ofNat 0, .ofNat 7), (3, .negSucc 0, .ofNat 5), (4, .ofNat 0, .ofNat 5040), (5, .ofNat 0, .ofNat 12), (6, .negSucc 2147483647, .ofNat 2147483647)], [(2, 5, .ofNat 0), (5, 2, .ofNat 5)], [(0, .inl 66), (1, .inl 11), (2, .inl 19), (3, .inr (false, (1, .ofNat 0))), (4, .inl 32), (5, .inr (false, (2, .ofNat 0))), (6, .inr (false, (3, .ofNat 0))), (7, .inr (false, (4, .ofNat 0)))], [], [(11, (0, .ofNat 2), .inr (false, (5, .ofNat 0))), (32, (0, .ofNat 0), .inl 11), (32, (0, .ofNat 1), .inl 19), (32, (0, .ofNat 2), .inr (false, (0, .ofNat 2))), (32, (0, .ofNat 3), .inr (false, (1, .ofNat 0))), (66, (0, .ofNat 0), .inr (false, (0, .ofNat 2))), (66, (0, .ofNat 1), .inr (false, (0, .ofNat 1))), (66, (0, .ofNat 2), .inr (false, (1, .ofNat 0))), (66, (0, .ofNat 3), .inl 67), (66, (0, .ofNat 5), .inr (false, (6, .ofNat 0))), (66, (0, .ofNat 7), .inl 69)], []), ((0, 4, .ofNat 5040), (0, 0, .ofNat 0), (0, 0, .ofNat 0)), 0, 0), 
  (34, (3, [(1, .ofNat 0, .ofNat 63), (2, .ofNat 0, .ofNat 128)], [], [(0, .inl 66), (1, .inl 11), (2, .inl 19), (3, .inr (false, (1, .ofNat 0))), (4, .inl 32), (5, .inr (false, (2, .ofNat 0)))], [], [(66, (0, .ofNat 1), .inr (false, (0, .ofNat 1))), (66, (0, .ofNat 2), .inr (false, (1, .ofNat 0))), (66, (0, .ofNat 5), .inr (false, (0, .negSucc 0)))], []), ((0, 2, .ofNat 5177), (0, 0, .ofNat 0), (0, 0, .ofNat 0)), 0, 0), 
  (75, (5, [(1, .ofNat 0, .ofNat 63), (2, .ofNat 0, .ofNat 7), (3, .ofNat 0, .ofNat 7), (4, .ofNat 0, .ofNat 12)], [(2, 4, .ofNat 0), (4, 2, .ofNat 5)], [(0, .inl 66), (1, .inl 11), (2, .inl 19), (3, .inr (false, (1, .ofNat 0))), (4, .inl 32), (5, .inr (false, (2, .ofNat 0))), (6, .inr (false, (3, .ofNat 0)))], [], [(11, (0, .ofNat 2), .inr (false, (4, .ofNat 0))), (66, (0, .ofNat 1), .inr (false, (0, .ofNat 1))), (66, (0, .ofNat 2), .inr (false, (1, .ofNat 0))), (66, (0, .ofNat 3), .inl 67), (66, (0, .ofNat 5), .inr (false, (0, .negSucc 0))), (66, (0, .ofNat 7), .inl 69)], []), ((0, 3, .ofNat 5048), (0, 0, .ofNat 0), (0, 0, .ofNat 0)), 0, 0)]
set_option maxRecDepth 1000000 in
theorem cv972 {gh : sxGh} (hg : sxGd sxKw gh) : sxCtV sxKw gh ct972 := sxMeB_ok (cts := [ct970, ct811, ct967, ct968]) (cuts := cu972) (sp := []) 179 (by decide +kernel) hg (by decide) (by decide) (List.forall_mem_cons.mpr ⟨cv970 hg, (List.forall_mem_cons.mpr ⟨cv811 hg, (List.forall_mem_cons.mpr ⟨cv967 hg, (List.forall_mem_cons.mpr ⟨cv968 hg, (fun _ h => absurd h List.not_mem_nil)⟩)⟩)⟩)⟩)
/-- LotBeliefs.Survey.digits -/
def ct1002 : sxCt := (71, 0, (2, [(1, .ofNat 0, .ofNat 7)], [], [(0, .inl 62), (1, .inr (false, (1, .ofNat 0)))], [], [], []), [], [
  (3, [(1, .ofNat 0, .ofNat 7), (2, .negSucc 9223372036854775807, .ofNat 9223372036854775807)], [], [], [.inr (true, (2, .ofNat 0))], [], [])], [], 0, 0)
def cu1002 : List sxCu := [
  (5, (4, [(1, .ofNat 0, .ofNat 7), (2, .negSucc 9223372036854775807, .ofNat 9223372036854775807), (3, .ofNat 0, .ofNat 7)], [], [(0, .inl 62), (1, .inr (false, (1, .ofNat 0))), (2, .inr (true, (2, .ofNat 0))), (4, .inr (false, (3, .ofNat 0)))], [], [], []), ((0, 3, .ofNat 7), (0, 0, .ofNat 0), (0, 0, .ofNat 0)), 0, 0)]
set_option maxRecDepth 1000000 in
theorem cv1002 {gh : sxGh} (hg : sxGd sxKw gh) : sxCtV sxKw gh ct1002 := sxMeB_ok (cts := []) (cuts := cu1002) (sp := []) 81 (by decide +kernel) hg (by decide) (by decide) (fun _ h => absurd h List.not_mem_nil)
/-- LotBeliefs.Survey.note -/
def ct1003 : sxCt := (70, 1, (4, [(1, .ofNat 0, .ofNat 4095), (2, .negSucc 2147483647, .ofNat 2147483647), (3, .ofNat 0, .ofNat 7)], [], [(0, .inl 62), (1, .inr (false, (1, .ofNat 0))), (2, .inr (false, (2, .ofNat 0))), (3, .inr (false, (3, .ofNat 0)))], [], [], []), [(62, 6), (62, 7), (63, 0), (64, 0)], [
  (5, [(1, .ofNat 0, .ofNat 4095), (2, .negSucc 2147483647, .ofNat 2147483647), (3, .ofNat 0, .ofNat 7), (4, .negSucc 2147483647, .ofNat 2147483647)], [(2, 4, .ofNat 0)], [], [], [(62, (0, .ofNat 5), .inr (false, (4, .ofNat 0)))], [])], [], 0, 0)
def cu1003 : List sxCu := []
set_option maxRecDepth 1000000 in
theorem cv1003 {gh : sxGh} (hg : sxGd sxKw gh) : sxCtV sxKw gh ct1003 := sxMeB_ok (cts := [ct1002]) (cuts := cu1003) (sp := []) 141 (by decide +kernel) hg (by decide) (by decide) (List.forall_mem_cons.mpr ⟨cv1002 hg, (fun _ h => absurd h List.not_mem_nil)⟩)
/-- LotBeliefs.Survey.advance -/
def ct1004 : sxCt := (72, 1, (2, [(1, .ofNat 0, .ofNat 7)], [], [(0, .inl 62), (1, .inr (false, (1, .ofNat 0)))], [], [], []), [(65, 0)], [
  (3, [(1, .ofNat 0, .ofNat 7), (2, .negSucc 0, .ofNat 5)], [(2, 1, .negSucc 0)], [], [.inr (false, (2, .ofNat 0))], [], [])], [], 0, 0)
def cu1004 : List sxCu := [
  (4, (3, [(1, .ofNat 0, .ofNat 7), (2, .negSucc 1, .ofNat 5)], [(2, 1, .negSucc 1)], [(0, .inl 62), (1, .inr (false, (1, .ofNat 0))), (2, .inr (false, (2, .ofNat 0)))], [], [], []), ((2, 0, .ofNat 15), (0, 0, .ofNat 0), (0, 0, .ofNat 0)), 0, 0), 
  (41, (4, [(1, .ofNat 2, .ofNat 7), (2, .ofNat 0, .ofNat 5), (3, .ofNat 0, .ofNat 6)], [(2, 1, .negSucc 1), (3, 1, .negSucc 0)], [(0, .inl 62), (1, .inr (false, (1, .ofNat 0))), (2, .inr (false, (2, .ofNat 0))), (3, .inr (false, (3, .ofNat 0)))], [], [(62, (0, .ofNat 7), .inl 65)], []), ((3, 0, .ofNat 6), (0, 0, .ofNat 0), (0, 0, .ofNat 0)), 0, 0), 
  (83, (6, [(1, .ofNat 2, .ofNat 7), (2, .ofNat 0, .ofNat 5), (3, .ofNat 0, .ofNat 6), (4, .ofNat 1, .ofNat 6), (5, .ofNat 1, .ofNat 6)], [(2, 1, .negSucc 1), (2, 4, .negSucc 0), (2, 5, .negSucc 0), (3, 1, .negSucc 0), (4, 1, .negSucc 0), (5, 1, .negSucc 0)], [(0, .inl 62), (1, .inr (false, (1, .ofNat 0))), (2, .inr (false, (2, .ofNat 0))), (3, .inr (false, (3, .ofNat 0))), (4, .inr (false, (4, .ofNat 0))), (5, .inr (false, (5, .ofNat 0)))], [], [(62, (0, .ofNat 7), .inl 65)], []), ((0, 4, .ofNat 6), (0, 0, .ofNat 0), (0, 0, .ofNat 0)), 0, 0)]
set_option maxRecDepth 1000000 in
theorem cv1004 {gh : sxGh} (hg : sxGd sxKw gh) : sxCtV sxKw gh ct1004 := sxMeB_ok (cts := []) (cuts := cu1004) (sp := []) 196 (by decide +kernel) hg (by decide) (by decide) (fun _ h => absurd h List.not_mem_nil)
/-- LotBeliefs.Course.goBack -/
def ct1005 : sxCt := (3, 1, (2, [(1, .ofNat 0, .ofNat 5)], [], [(0, .inl 32), (1, .inl 65), (2, .inr (false, (1, .ofNat 0)))], [], [], []), [(32, 11), (32, 12), (33, 0), (34, 0), (35, 0), (36, 0), (37, 0)], [
  (3, [(1, .ofNat 0, .ofNat 5), (2, .ofNat 0, .ofNat 17)], [], [], [], [(32, (0, .ofNat 10), .inr (false, (2, .ofNat 0)))], [])], [], 0, 0)
def cu1005 : List sxCu := [
  (12, (3, [(1, .ofNat 0, .ofNat 5), (2, .ofNat 0, .ofNat 17)], [], [(0, .inl 32), (1, .inl 65), (2, .inr (false, (1, .ofNat 0))), (3, .inr (false, (2, .ofNat 0)))], [], [(32, (0, .ofNat 10), .inr (false, (0, .ofNat 0))), (32, (0, .ofNat 11), .inr (false, (0, .ofNat 0)))], []), ((0, 2, .ofNat 23), (0, 0, .ofNat 0), (0, 0, .ofNat 0)), 0, 0), 
  (46, (4, [(1, .ofNat 0, .ofNat 5), (2, .ofNat 0, .ofNat 5), (3, .ofNat 0, .ofNat 17)], [], [(0, .inl 32), (1, .inl 65), (2, .inr (false, (1, .ofNat 0))), (3, .inr (false, (2, .ofNat 0)))], [], [(32, (0, .ofNat 4), .inl 33), (32, (0, .ofNat 10), .inr (false, (3, .ofNat 0)))], []), ((0, 2, .ofNat 5), (0, 0, .ofNat 0), (0, 0, .ofNat 0)), 0, 0)]
set_option maxRecDepth 1000000 in
theorem cv1005 {gh : sxGh} (hg : sxGd sxKw gh) : sxCtV sxKw gh ct1005 := sxMeB_ok (cts := [ct797]) (cuts := cu1005) (sp := []) 123 (by decide +kernel) hg (by decide) (by decide) (List.forall_mem_cons.mpr ⟨cv797 hg, (fun _ h => absurd h List.not_mem_nil)⟩)
/-- LotBeliefs.Course.play -/
def ct1006 : sxCt := (2, 4, (3, [(1, .ofNat 0, .ofNat 7), (2, .ofNat 0, .ofNat 5)], [], [(0, .inl 32), (1, .inl 65), (2, .inr (false, (1, .ofNat 0))), (3, .inr (false, (2, .ofNat 0)))], [], [], []), [(21, 0), (22, 0), (25, 0), (26, 0), (32, 9), (32, 11), (32, 12), (33, 0), (34, 0), (35, 0), (36, 0), (37, 0)], [
  (5, [(1, .ofNat 0, .ofNat 7), (2, .ofNat 0, .ofNat 5), (3, .ofNat 0, .ofNat 4095), (4, .negSucc 2147483647, .ofNat 2147483647)], [], [], [], [(32, (0, .ofNat 8), .inr (false, (3, .ofNat 0))), (32, (0, .ofNat 11), .inr (false, (4, .ofNat 0)))], [])], [], 0, 0)
def cu1006 : List sxCu := [
  (9, (4, [(1, .ofNat 0, .ofNat 7), (2, .ofNat 0, .ofNat 5), (3, .ofNat 0, .ofNat 7)], [(2, 3, .ofNat 0), (3, 1, .ofNat 5)], [(0, .inl 32), (1, .inl 65), (2, .inr (false, (1, .ofNat 0))), (3, .inr (false, (2, .ofNat 0))), (4, .inr (false, (3, .ofNat 0)))], [], [], []), ((0, 3, .ofNat 7), (0, 0, .ofNat 0), (0, 0, .ofNat 0)), 0, 0)]
set_option maxRecDepth 1000000 in
theorem cv1006 {gh : sxGh} (hg : sxGd sxKw gh) : sxCtV sxKw gh ct1006 := sxMeB_ok (cts := [ct1005, ct797, ct326, ct277, ct882, ct892]) (cuts := cu1006) (sp := []) 132 (by decide +kernel) hg (by decide) (by decide) (List.forall_mem_cons.mpr ⟨cv1005 hg, (List.forall_mem_cons.mpr ⟨cv797 hg, (List.forall_mem_cons.mpr ⟨cv326 hg, (List.forall_mem_cons.mpr ⟨cv277 hg, (List.forall_mem_cons.mpr ⟨cv882 hg, (List.forall_mem_cons.mpr ⟨cv892 hg, (fun _ h => absurd h List.not_mem_nil)⟩)⟩)⟩)⟩)⟩)⟩)
/-- LotBeliefs.Survey.take -/
def ct1007 : sxCt := (69, 5, (2, [(1, .ofNat 0, .ofNat 63)], [], [(0, .inl 62), (1, .inl 11), (2, .inl 23), (3, .inr (false, (1, .ofNat 0))), (4, .inl 32)], [], [], []), [(21, 0), (22, 0), (25, 0), (26, 0), (32, 1), (32, 2), (32, 3), (32, 4), (32, 9), (32, 11), (32, 12), (33, 0), (34, 0), (35, 0), (36, 0), (37, 0), (62, 2), (62, 3), (62, 6), (62, 7), (63, 0), (64, 0), (65, 0)], [
  (3, [(1, .ofNat 0, .ofNat 63), (2, .ofNat 0, .ofNat 63)], [(1, 2, .ofNat 0), (2, 1, .ofNat 0)], [], [], [(62, (0, .ofNat 1), .inr (false, (0, .ofNat 1))), (62, (0, .ofNat 2), .inr (false, (2, .ofNat 0)))], [])], [], 0, 0)
def cu1007 : List sxCu := [
  (115, (7, [(1, .ofNat 0, .ofNat 63), (2, .ofNat 0, .ofNat 7), (3, .negSucc 0, .ofNat 5), (4, .ofNat 0, .ofNat 5040), (5, .ofNat 0, .ofNat 12), (6, .negSucc 2147483647, .ofNat 2147483647)], [(2, 5, .ofNat 0), (5, 2, .ofNat 5)], [(0, .inl 62), (1, .inl 11), (2, .inl 23), (3, .inr (false, (1, .ofNat 0))), (4, .inl 32), (5, .inr (false, (2, .ofNat 0))), (6, .inr (false, (3, .ofNat 0))), (7, .inr (false, (4, .ofNat 0)))], [], [(11, (0, .ofNat 2), .inr (false, (5, .ofNat 0))), (32, (0, .ofNat 0), .inl 11), (32, (0, .ofNat 1), .inl 23), (32, (0, .ofNat 2), .inr (false, (0, .ofNat 1))), (32, (0, .ofNat 3), .inr (false, (1, .ofNat 0))), (62, (0, .ofNat 0), .inr (false, (0, .ofNat 1))), (62, (0, .ofNat 1), .inr (false, (0, .ofNat 1))), (62, (0, .ofNat 2), .inr (false, (1, .ofNat 0))), (62, (0, .ofNat 3), .inl 63), (62, (0, .ofNat 5), .inr (false, (6, .ofNat 0))), (62, (0, .ofNat 7), .inl 65)], []), ((0, 4, .ofNat 5040), (0, 0, .ofNat 0), (0, 0, .ofNat 0)), 0, 0), 
  (34, (3, [(1, .ofNat 0, .ofNat 63), (2, .ofNat 0, .ofNat 128)], [], [(0, .inl 62), (1, .inl 11), (2, .inl 23), (3, .inr (false, (1, .ofNat 0))), (4, .inl 32), (5, .inr (false, (2, .ofNat 0)))], [], [(62, (0, .ofNat 1), .inr (false, (0, .ofNat 1))), (62, (0, .ofNat 2), .inr (false, (1, .ofNat 0))), (62, (0, .ofNat 5), .inr (false, (0, .negSucc 0)))], []), ((0, 2, .ofNat 5177), (0, 0, .ofNat 0), (0, 0, .ofNat 0)), 0, 0), 
  (75, (5, [(1, .ofNat 0, .ofNat 63), (2, .ofNat 0, .ofNat 7), (3, .ofNat 0, .ofNat 7), (4, .ofNat 0, .ofNat 12)], [(2, 4, .ofNat 0), (4, 2, .ofNat 5)], [(0, .inl 62), (1, .inl 11), (2, .inl 23), (3, .inr (false, (1, .ofNat 0))), (4, .inl 32), (5, .inr (false, (2, .ofNat 0))), (6, .inr (false, (3, .ofNat 0)))], [], [(11, (0, .ofNat 2), .inr (false, (4, .ofNat 0))), (62, (0, .ofNat 1), .inr (false, (0, .ofNat 1))), (62, (0, .ofNat 2), .inr (false, (1, .ofNat 0))), (62, (0, .ofNat 3), .inl 63), (62, (0, .ofNat 5), .inr (false, (0, .negSucc 0))), (62, (0, .ofNat 7), .inl 65)], []), ((0, 3, .ofNat 5048), (0, 0, .ofNat 0), (0, 0, .ofNat 0)), 0, 0)]
set_option maxRecDepth 1000000 in
theorem cv1007 {gh : sxGh} (hg : sxGd sxKw gh) : sxCtV sxKw gh ct1007 := sxMeB_ok (cts := [ct1006, ct811, ct1003, ct1004]) (cuts := cu1007) (sp := []) 179 (by decide +kernel) hg (by decide) (by decide) (List.forall_mem_cons.mpr ⟨cv1006 hg, (List.forall_mem_cons.mpr ⟨cv811 hg, (List.forall_mem_cons.mpr ⟨cv1003 hg, (List.forall_mem_cons.mpr ⟨cv1004 hg, (fun _ h => absurd h List.not_mem_nil)⟩)⟩)⟩)⟩)
/-- LotBeliefs.Survey.take -/
def ct1008 : sxCt := (69, 5, (2, [(1, .ofNat 0, .ofNat 63)], [], [(0, .inl 62), (1, .inl 11), (2, .inl 19), (3, .inr (false, (1, .ofNat 0))), (4, .inl 32)], [], [], []), [(21, 0), (22, 0), (25, 0), (26, 0), (32, 1), (32, 2), (32, 3), (32, 4), (32, 9), (32, 11), (32, 12), (33, 0), (34, 0), (35, 0), (36, 0), (37, 0), (62, 2), (62, 3), (62, 6), (62, 7), (63, 0), (64, 0), (65, 0)], [
  (3, [(1, .ofNat 0, .ofNat 63), (2, .ofNat 0, .ofNat 63)], [(1, 2, .ofNat 0), (2, 1, .ofNat 0)], [], [], [(62, (0, .ofNat 1), .inr (false, (0, .ofNat 1))), (62, (0, .ofNat 2), .inr (false, (2, .ofNat 0)))], [])], [], 0, 0)
def cu1008 : List sxCu := [
  (115, (7, [(1, .ofNat 0, .ofNat 63), (2, .ofNat 0, .ofNat 7), (3, .negSucc 0, .ofNat 5), (4, .ofNat 0, .ofNat 5040), (5, .ofNat 0, .ofNat 12), (6, .negSucc 2147483647, .ofNat 2147483647)], [(2, 5, .ofNat 0), (5, 2, .ofNat 5)], [(0, .inl 62), (1, .inl 11), (2, .inl 19), (3, .inr (false, (1, .ofNat 0))), (4, .inl 32), (5, .inr (false, (2, .ofNat 0))), (6, .inr (false, (3, .ofNat 0))), (7, .inr (false, (4, .ofNat 0)))], [], [(11, (0, .ofNat 2), .inr (false, (5, .ofNat 0))), (32, (0, .ofNat 0), .inl 11), (32, (0, .ofNat 1), .inl 19), (32, (0, .ofNat 2), .inr (false, (0, .ofNat 1))), (32, (0, .ofNat 3), .inr (false, (1, .ofNat 0))), (62, (0, .ofNat 0), .inr (false, (0, .ofNat 1))), (62, (0, .ofNat 1), .inr (false, (0, .ofNat 1))), (62, (0, .ofNat 2), .inr (false, (1, .ofNat 0))), (62, (0, .ofNat 3), .inl 63), (62, (0, .ofNat 5), .inr (false, (6, .ofNat 0))), (62, (0, .ofNat 7), .inl 65)], []), ((0, 4, .ofNat 5040), (0, 0, .ofNat 0), (0, 0, .ofNat 0)), 0, 0), 
  (34, (3, [(1, .ofNat 0, .ofNat 63), (2, .ofNat 0, .ofNat 128)], [], [(0, .inl 62), (1, .inl 11), (2, .inl 19), (3, .inr (false, (1, .ofNat 0))), (4, .inl 32), (5, .inr (false, (2, .ofNat 0)))], [], [(62, (0, .ofNat 1), .inr (false, (0, .ofNat 1))), (62, (0, .ofNat 2), .inr (false, (1, .ofNat 0))), (62, (0, .ofNat 5), .inr (false, (0, .negSucc 0)))], []), ((0, 2, .ofNat 5177), (0, 0, .ofNat 0), (0, 0, .ofNat 0)), 0, 0), 
  (75, (5, [(1, .ofNat 0, .ofNat 63), (2, .ofNat 0, .ofNat 7), (3, .ofNat 0, .ofNat 7), (4, .ofNat 0, .ofNat 12)], [(2, 4, .ofNat 0), (4, 2, .ofNat 5)], [(0, .inl 62), (1, .inl 11), (2, .inl 19), (3, .inr (false, (1, .ofNat 0))), (4, .inl 32), (5, .inr (false, (2, .ofNat 0))), (6, .inr (false, (3, .ofNat 0)))], [], [(11, (0, .ofNat 2), .inr (false, (4, .ofNat 0))), (62, (0, .ofNat 1), .inr (false, (0, .ofNat 1))), (62, (0, .ofNat 2), .inr (false, (1, .ofNat 0))), (62, (0, .ofNat 3), .inl 63), (62, (0, .ofNat 5), .inr (false, (0, .negSucc 0))), (62, (0, .ofNat 7), .inl 65)], []), ((0, 3, .ofNat 5048), (0, 0, .ofNat 0), (0, 0, .ofNat 0)), 0, 0)]
set_option maxRecDepth 1000000 in
theorem cv1008 {gh : sxGh} (hg : sxGd sxKw gh) : sxCtV sxKw gh ct1008 := sxMeB_ok (cts := [ct1006, ct811, ct1003, ct1004]) (cuts := cu1008) (sp := []) 179 (by decide +kernel) hg (by decide) (by decide) (List.forall_mem_cons.mpr ⟨cv1006 hg, (List.forall_mem_cons.mpr ⟨cv811 hg, (List.forall_mem_cons.mpr ⟨cv1003 hg, (List.forall_mem_cons.mpr ⟨cv1004 hg, (fun _ h => absurd h List.not_mem_nil)⟩)⟩)⟩)⟩)
/-- LotBeliefs.Survey.digits -/
def ct1038 : sxCt := (71, 0, (2, [(1, .ofNat 0, .ofNat 7)], [], [(0, .inl 58), (1, .inr (false, (1, .ofNat 0)))], [], [], []), [], [
  (3, [(1, .ofNat 0, .ofNat 7), (2, .negSucc 9223372036854775807, .ofNat 9223372036854775807)], [], [], [.inr (true, (2, .ofNat 0))], [], [])], [], 0, 0)
def cu1038 : List sxCu := [
  (5, (4, [(1, .ofNat 0, .ofNat 7), (2, .negSucc 9223372036854775807, .ofNat 9223372036854775807), (3, .ofNat 0, .ofNat 7)], [], [(0, .inl 58), (1, .inr (false, (1, .ofNat 0))), (2, .inr (true, (2, .ofNat 0))), (4, .inr (false, (3, .ofNat 0)))], [], [], []), ((0, 3, .ofNat 7), (0, 0, .ofNat 0), (0, 0, .ofNat 0)), 0, 0)]
set_option maxRecDepth 1000000 in
theorem cv1038 {gh : sxGh} (hg : sxGd sxKw gh) : sxCtV sxKw gh ct1038 := sxMeB_ok (cts := []) (cuts := cu1038) (sp := []) 81 (by decide +kernel) hg (by decide) (by decide) (fun _ h => absurd h List.not_mem_nil)
/-- LotBeliefs.Survey.note -/
def ct1039 : sxCt := (70, 1, (4, [(1, .ofNat 0, .ofNat 4095), (2, .negSucc 2147483647, .ofNat 2147483647), (3, .ofNat 0, .ofNat 7)], [], [(0, .inl 58), (1, .inr (false, (1, .ofNat 0))), (2, .inr (false, (2, .ofNat 0))), (3, .inr (false, (3, .ofNat 0)))], [], [], []), [(58, 6), (58, 7), (59, 0), (60, 0)], [
  (5, [(1, .ofNat 0, .ofNat 4095), (2, .negSucc 2147483647, .ofNat 2147483647), (3, .ofNat 0, .ofNat 7), (4, .negSucc 2147483647, .ofNat 2147483647)], [(2, 4, .ofNat 0)], [], [], [(58, (0, .ofNat 5), .inr (false, (4, .ofNat 0)))], [])], [], 0, 0)
def cu1039 : List sxCu := []
set_option maxRecDepth 1000000 in
theorem cv1039 {gh : sxGh} (hg : sxGd sxKw gh) : sxCtV sxKw gh ct1039 := sxMeB_ok (cts := [ct1038]) (cuts := cu1039) (sp := []) 141 (by decide +kernel) hg (by decide) (by decide) (List.forall_mem_cons.mpr ⟨cv1038 hg, (fun _ h => absurd h List.not_mem_nil)⟩)
/-- LotBeliefs.Survey.advance -/
def ct1040 : sxCt := (72, 1, (2, [(1, .ofNat 0, .ofNat 7)], [], [(0, .inl 58), (1, .inr (false, (1, .ofNat 0)))], [], [], []), [(61, 0)], [
  (3, [(1, .ofNat 0, .ofNat 7), (2, .negSucc 0, .ofNat 5)], [(2, 1, .negSucc 0)], [], [.inr (false, (2, .ofNat 0))], [], [])], [], 0, 0)
def cu1040 : List sxCu := [
  (4, (3, [(1, .ofNat 0, .ofNat 7), (2, .negSucc 1, .ofNat 5)], [(2, 1, .negSucc 1)], [(0, .inl 58), (1, .inr (false, (1, .ofNat 0))), (2, .inr (false, (2, .ofNat 0)))], [], [], []), ((2, 0, .ofNat 15), (0, 0, .ofNat 0), (0, 0, .ofNat 0)), 0, 0), 
  (41, (4, [(1, .ofNat 2, .ofNat 7), (2, .ofNat 0, .ofNat 5), (3, .ofNat 0, .ofNat 6)], [(2, 1, .negSucc 1), (3, 1, .negSucc 0)], [(0, .inl 58), (1, .inr (false, (1, .ofNat 0))), (2, .inr (false, (2, .ofNat 0))), (3, .inr (false, (3, .ofNat 0)))], [], [(58, (0, .ofNat 7), .inl 61)], []), ((3, 0, .ofNat 6), (0, 0, .ofNat 0), (0, 0, .ofNat 0)), 0, 0), 
  (83, (6, [(1, .ofNat 2, .ofNat 7), (2, .ofNat 0, .ofNat 5), (3, .ofNat 0, .ofNat 6), (4, .ofNat 1, .ofNat 6), (5, .ofNat 1, .ofNat 6)], [(2, 1, .negSucc 1), (2, 4, .negSucc 0), (2, 5, .negSucc 0), (3, 1, .negSucc 0), (4, 1, .negSucc 0), (5, 1, .negSucc 0)], [(0, .inl 58), (1, .inr (false, (1, .ofNat 0))), (2, .inr (false, (2, .ofNat 0))), (3, .inr (false, (3, .ofNat 0))), (4, .inr (false, (4, .ofNat 0))), (5, .inr (false, (5, .ofNat 0)))], [], [(58, (0, .ofNat 7), .inl 61)], []), ((0, 4, .ofNat 6), (0, 0, .ofNat 0), (0, 0, .ofNat 0)), 0, 0)]
set_option maxRecDepth 1000000 in
theorem cv1040 {gh : sxGh} (hg : sxGd sxKw gh) : sxCtV sxKw gh ct1040 := sxMeB_ok (cts := []) (cuts := cu1040) (sp := []) 196 (by decide +kernel) hg (by decide) (by decide) (fun _ h => absurd h List.not_mem_nil)
/-- LotBeliefs.Course.goBack -/
def ct1041 : sxCt := (3, 1, (2, [(1, .ofNat 0, .ofNat 5)], [], [(0, .inl 32), (1, .inl 61), (2, .inr (false, (1, .ofNat 0)))], [], [], []), [(32, 11), (32, 12), (33, 0), (34, 0), (35, 0), (36, 0), (37, 0)], [
  (3, [(1, .ofNat 0, .ofNat 5), (2, .ofNat 0, .ofNat 17)], [], [], [], [(32, (0, .ofNat 10), .inr (false, (2, .ofNat 0)))], [])], [], 0, 0)
def cu1041 : List sxCu := [
  (12, (3, [(1, .ofNat 0, .ofNat 5), (2, .ofNat 0, .ofNat 17)], [], [(0, .inl 32), (1, .inl 61), (2, .inr (false, (1, .ofNat 0))), (3, .inr (false, (2, .ofNat 0)))], [], [(32, (0, .ofNat 10), .inr (false, (0, .ofNat 0))), (32, (0, .ofNat 11), .inr (false, (0, .ofNat 0)))], []), ((0, 2, .ofNat 23), (0, 0, .ofNat 0), (0, 0, .ofNat 0)), 0, 0), 
  (46, (4, [(1, .ofNat 0, .ofNat 5), (2, .ofNat 0, .ofNat 5), (3, .ofNat 0, .ofNat 17)], [], [(0, .inl 32), (1, .inl 61), (2, .inr (false, (1, .ofNat 0))), (3, .inr (false, (2, .ofNat 0)))], [], [(32, (0, .ofNat 4), .inl 33), (32, (0, .ofNat 10), .inr (false, (3, .ofNat 0)))], []), ((0, 2, .ofNat 5), (0, 0, .ofNat 0), (0, 0, .ofNat 0)), 0, 0)]
set_option maxRecDepth 1000000 in
theorem cv1041 {gh : sxGh} (hg : sxGd sxKw gh) : sxCtV sxKw gh ct1041 := sxMeB_ok (cts := [ct797]) (cuts := cu1041) (sp := []) 123 (by decide +kernel) hg (by decide) (by decide) (List.forall_mem_cons.mpr ⟨cv797 hg, (fun _ h => absurd h List.not_mem_nil)⟩)
/-- LotBeliefs.Course.play -/
def ct1042 : sxCt := (2, 4, (3, [(1, .ofNat 0, .ofNat 7), (2, .ofNat 0, .ofNat 5)], [], [(0, .inl 32), (1, .inl 61), (2, .inr (false, (1, .ofNat 0))), (3, .inr (false, (2, .ofNat 0)))], [], [], []), [(21, 0), (22, 0), (25, 0), (26, 0), (32, 9), (32, 11), (32, 12), (33, 0), (34, 0), (35, 0), (36, 0), (37, 0)], [
  (5, [(1, .ofNat 0, .ofNat 7), (2, .ofNat 0, .ofNat 5), (3, .ofNat 0, .ofNat 4095), (4, .negSucc 2147483647, .ofNat 2147483647)], [], [], [], [(32, (0, .ofNat 8), .inr (false, (3, .ofNat 0))), (32, (0, .ofNat 11), .inr (false, (4, .ofNat 0)))], [])], [], 0, 0)
def cu1042 : List sxCu := [
  (9, (4, [(1, .ofNat 0, .ofNat 7), (2, .ofNat 0, .ofNat 5), (3, .ofNat 0, .ofNat 7)], [(2, 3, .ofNat 0), (3, 1, .ofNat 5)], [(0, .inl 32), (1, .inl 61), (2, .inr (false, (1, .ofNat 0))), (3, .inr (false, (2, .ofNat 0))), (4, .inr (false, (3, .ofNat 0)))], [], [], []), ((0, 3, .ofNat 7), (0, 0, .ofNat 0), (0, 0, .ofNat 0)), 0, 0)]
set_option maxRecDepth 1000000 in
theorem cv1042 {gh : sxGh} (hg : sxGd sxKw gh) : sxCtV sxKw gh ct1042 := sxMeB_ok (cts := [ct1041, ct797, ct326, ct277, ct882, ct892]) (cuts := cu1042) (sp := []) 132 (by decide +kernel) hg (by decide) (by decide) (List.forall_mem_cons.mpr ⟨cv1041 hg, (List.forall_mem_cons.mpr ⟨cv797 hg, (List.forall_mem_cons.mpr ⟨cv326 hg, (List.forall_mem_cons.mpr ⟨cv277 hg, (List.forall_mem_cons.mpr ⟨cv882 hg, (List.forall_mem_cons.mpr ⟨cv892 hg, (fun _ h => absurd h List.not_mem_nil)⟩)⟩)⟩)⟩)⟩)⟩)
/-- LotBeliefs.Survey.take -/
def ct1043 : sxCt := (69, 5, (2, [(1, .ofNat 0, .ofNat 63)], [], [(0, .inl 58), (1, .inl 11), (2, .inl 23), (3, .inr (false, (1, .ofNat 0))), (4, .inl 32)], [], [], []), [(21, 0), (22, 0), (25, 0), (26, 0), (32, 1), (32, 2), (32, 3), (32, 4), (32, 9), (32, 11), (32, 12), (33, 0), (34, 0), (35, 0), (36, 0), (37, 0), (58, 2), (58, 3), (58, 6), (58, 7), (59, 0), (60, 0), (61, 0)], [
  (3, [(1, .ofNat 0, .ofNat 63), (2, .ofNat 0, .ofNat 63)], [(1, 2, .ofNat 0), (2, 1, .ofNat 0)], [], [], [(58, (0, .ofNat 1), .inr (false, (0, .ofNat 1))), (58, (0, .ofNat 2), .inr (false, (2, .ofNat 0)))], [])], [], 0, 0)
def cu1043 : List sxCu := [
  (115, (7, [(1, .ofNat 0, .ofNat 63), (2, .ofNat 0, .ofNat 7), (3, .negSucc 0, .ofNat 5), (4, .ofNat 0, .ofNat 5040), (5, .ofNat 0, .ofNat 12), (6, .negSucc 2147483647, .ofNat 2147483647)], [(2, 5, .ofNat 0), (5, 2, .ofNat 5)], [(0, .inl 58), (1, .inl 11), (2, .inl 23), (3, .inr (false, (1, .ofNat 0))), (4, .inl 32), (5, .inr (false, (2, .ofNat 0))), (6, .inr (false, (3, .ofNat 0))), (7, .inr (false, (4, .ofNat 0)))], [], [(11, (0, .ofNat 2), .inr (false, (5, .ofNat 0))), (32, (0, .ofNat 0), .inl 11), (32, (0, .ofNat 1), .inl 23), (32, (0, .ofNat 2), .inr (false, (0, .ofNat 0))), (32, (0, .ofNat 3), .inr (false, (1, .ofNat 0))), (58, (0, .ofNat 0), .inr (false, (0, .ofNat 0))), (58, (0, .ofNat 1), .inr (false, (0, .ofNat 1))), (58, (0, .ofNat 2), .inr (false, (1, .ofNat 0))), (58, (0, .ofNat 3), .inl 59), (58, (0, .ofNat 5), .inr (false, (6, .ofNat 0))), (58, (0, .ofNat 7), .inl 61)], []), ((0, 4, .ofNat 5040), (0, 0, .ofNat 0), (0, 0, .ofNat 0)), 0, 0), 
  (34, (3, [(1, .ofNat 0, .ofNat 63), (2, .ofNat 0, .ofNat 128)], [], [(0, .inl 58), (1, .inl 11), (2, .inl 23), (3, .inr (false, (1, .ofNat 0))), (4, .inl 32), (5, .inr (false, (2, .ofNat 0)))], [], [(58, (0, .ofNat 1), .inr (false, (0, .ofNat 1))), (58, (0, .ofNat 2), .inr (false, (1, .ofNat 0))), (58, (0, .ofNat 5), .inr (false, (0, .negSucc 0)))], []), ((0, 2, .ofNat 5177), (0, 0, .ofNat 0), (0, 0, .ofNat 0)), 0, 0), 
  (75, (5, [(1, .ofNat 0, .ofNat 63), (2, .ofNat 0, .ofNat 7), (3, .ofNat 0, .ofNat 7), (4, .ofNat 0, .ofNat 12)], [(2, 4, .ofNat 0), (4, 2, .ofNat 5)], [(0, .inl 58), (1, .inl 11), (2, .inl 23), (3, .inr (false, (1, .ofNat 0))), (4, .inl 32), (5, .inr (false, (2, .ofNat 0))), (6, .inr (false, (3, .ofNat 0)))], [], [(11, (0, .ofNat 2), .inr (false, (4, .ofNat 0))), (58, (0, .ofNat 1), .inr (false, (0, .ofNat 1))), (58, (0, .ofNat 2), .inr (false, (1, .ofNat 0))), (58, (0, .ofNat 3), .inl 59), (58, (0, .ofNat 5), .inr (false, (0, .negSucc 0))), (58, (0, .ofNat 7), .inl 61)], []), ((0, 3, .ofNat 5048), (0, 0, .ofNat 0), (0, 0, .ofNat 0)), 0, 0)]
set_option maxRecDepth 1000000 in
theorem cv1043 {gh : sxGh} (hg : sxGd sxKw gh) : sxCtV sxKw gh ct1043 := sxMeB_ok (cts := [ct1042, ct811, ct1039, ct1040]) (cuts := cu1043) (sp := []) 179 (by decide +kernel) hg (by decide) (by decide) (List.forall_mem_cons.mpr ⟨cv1042 hg, (List.forall_mem_cons.mpr ⟨cv811 hg, (List.forall_mem_cons.mpr ⟨cv1039 hg, (List.forall_mem_cons.mpr ⟨cv1040 hg, (fun _ h => absurd h List.not_mem_nil)⟩)⟩)⟩)⟩)
/-- LotBeliefs.Survey.take -/
def ct1044 : sxCt := (69, 5, (2, [(1, .ofNat 0, .ofNat 63)], [], [(0, .inl 58), (1, .inl 11), (2, .inl 19), (3, .inr (false, (1, .ofNat 0))), (4, .inl 32)], [], [], []), [(21, 0), (22, 0), (25, 0), (26, 0), (32, 1), (32, 2), (32, 3), (32, 4), (32, 9), (32, 11), (32, 12), (33, 0), (34, 0), (35, 0), (36, 0), (37, 0), (58, 2), (58, 3), (58, 6), (58, 7), (59, 0), (60, 0), (61, 0)], [
  (3, [(1, .ofNat 0, .ofNat 63), (2, .ofNat 0, .ofNat 63)], [(1, 2, .ofNat 0), (2, 1, .ofNat 0)], [], [], [(58, (0, .ofNat 1), .inr (false, (0, .ofNat 1))), (58, (0, .ofNat 2), .inr (false, (2, .ofNat 0)))], [])], [], 0, 0)
def cu1044 : List sxCu := [
  (115, (7, [(1, .ofNat 0, .ofNat 63), (2, .ofNat 0, .ofNat 7), (3, .negSucc 0, .ofNat 5), (4, .ofNat 0, .ofNat 5040), (5, .ofNat 0, .ofNat 12), (6, .negSucc 2147483647, .ofNat 2147483647)], [(2, 5, .ofNat 0), (5, 2, .ofNat 5)], [(0, .inl 58), (1, .inl 11), (2, .inl 19), (3, .inr (false, (1, .ofNat 0))), (4, .inl 32), (5, .inr (false, (2, .ofNat 0))), (6, .inr (false, (3, .ofNat 0))), (7, .inr (false, (4, .ofNat 0)))], [], [(11, (0, .ofNat 2), .inr (false, (5, .ofNat 0))), (32, (0, .ofNat 0), .inl 11), (32, (0, .ofNat 1), .inl 19), (32, (0, .ofNat 2), .inr (false, (0, .ofNat 0))), (32, (0, .ofNat 3), .inr (false, (1, .ofNat 0))), (58, (0, .ofNat 0), .inr (false, (0, .ofNat 0))), (58, (0, .ofNat 1), .inr (false, (0, .ofNat 1))), (58, (0, .ofNat 2), .inr (false, (1, .ofNat 0))), (58, (0, .ofNat 3), .inl 59), (58, (0, .ofNat 5), .inr (false, (6, .ofNat 0))), (58, (0, .ofNat 7), .inl 61)], []), ((0, 4, .ofNat 5040), (0, 0, .ofNat 0), (0, 0, .ofNat 0)), 0, 0), 
  (34, (3, [(1, .ofNat 0, .ofNat 63), (2, .ofNat 0, .ofNat 128)], [], [(0, .inl 58), (1, .inl 11), (2, .inl 19), (3, .inr (false, (1, .ofNat 0))), (4, .inl 32), (5, .inr (false, (2, .ofNat 0)))], [], [(58, (0, .ofNat 1), .inr (false, (0, .ofNat 1))), (58, (0, .ofNat 2), .inr (false, (1, .ofNat 0))), (58, (0, .ofNat 5), .inr (false, (0, .negSucc 0)))], []), ((0, 2, .ofNat 5177), (0, 0, .ofNat 0), (0, 0, .ofNat 0)), 0, 0), 
  (75, (5, [(1, .ofNat 0, .ofNat 63), (2, .ofNat 0, .ofNat 7), (3, .ofNat 0, .ofNat 7), (4, .ofNat 0, .ofNat 12)], [(2, 4, .ofNat 0), (4, 2, .ofNat 5)], [(0, .inl 58), (1, .inl 11), (2, .inl 19), (3, .inr (false, (1, .ofNat 0))), (4, .inl 32), (5, .inr (false, (2, .ofNat 0))), (6, .inr (false, (3, .ofNat 0)))], [], [(11, (0, .ofNat 2), .inr (false, (4, .ofNat 0))), (58, (0, .ofNat 1), .inr (false, (0, .ofNat 1))), (58, (0, .ofNat 2), .inr (false, (1, .ofNat 0))), (58, (0, .ofNat 3), .inl 59), (58, (0, .ofNat 5), .inr (false, (0, .negSucc 0))), (58, (0, .ofNat 7), .inl 61)], []), ((0, 3, .ofNat 5048), (0, 0, .ofNat 0), (0, 0, .ofNat 0)), 0, 0)]
set_option maxRecDepth 1000000 in
theorem cv1044 {gh : sxGh} (hg : sxGd sxKw gh) : sxCtV sxKw gh ct1044 := sxMeB_ok (cts := [ct1042, ct811, ct1039, ct1040]) (cuts := cu1044) (sp := []) 179 (by decide +kernel) hg (by decide) (by decide) (List.forall_mem_cons.mpr ⟨cv1042 hg, (List.forall_mem_cons.mpr ⟨cv811 hg, (List.forall_mem_cons.mpr ⟨cv1039 hg, (List.forall_mem_cons.mpr ⟨cv1040 hg, (fun _ h => absurd h List.not_mem_nil)⟩)⟩)⟩)⟩)
/-- LotBeliefs.Survey.take -/
def ct1045 : sxCt := (69, 5, (2, [(1, .ofNat 0, .ofNat 63)], [], [(0, .inl 74), (1, .inl 3), (2, .inl 23), (3, .inr (false, (1, .ofNat 0))), (4, .inl 32)], [], [], []), [(21, 0), (22, 0), (25, 0), (26, 0), (32, 1), (32, 2), (32, 3), (32, 4), (32, 9), (32, 11), (32, 12), (33, 0), (34, 0), (35, 0), (36, 0), (37, 0), (74, 2), (74, 3), (74, 6), (74, 7), (75, 0), (76, 0), (77, 0)], [
  (3, [(1, .ofNat 0, .ofNat 63), (2, .ofNat 0, .ofNat 63)], [(1, 2, .ofNat 0), (2, 1, .ofNat 0)], [], [], [(74, (0, .ofNat 1), .inr (false, (0, .ofNat 1))), (74, (0, .ofNat 2), .inr (false, (2, .ofNat 0)))], [])], [], 0, 0)
def cu1045 : List sxCu := [
  (115, (7, [(1, .ofNat 0, .ofNat 63), (2, .ofNat 0, .ofNat 7), (3, .negSucc 0, .ofNat 5), (4, .ofNat 0, .ofNat 5040), (5, .ofNat 0, .ofNat 12), (6, .negSucc 2147483647, .ofNat 2147483647)], [(2, 5, .ofNat 0), (5, 2, .ofNat 5)], [(0, .inl 74), (1, .inl 3), (2, .inl 23), (3, .inr (false, (1, .ofNat 0))), (4, .inl 32), (5, .inr (false, (2, .ofNat 0))), (6, .inr (false, (3, .ofNat 0))), (7, .inr (false, (4, .ofNat 0)))], [], [(3, (0, .ofNat 2), .inr (false, (5, .ofNat 0))), (32, (0, .ofNat 0), .inl 3), (32, (0, .ofNat 1), .inl 23), (32, (0, .ofNat 2), .inr (false, (0, .ofNat 4))), (32, (0, .ofNat 3), .inr (false, (1, .ofNat 0))), (74, (0, .ofNat 0), .inr (false, (0, .ofNat 4))), (74, (0, .ofNat 1), .inr (false, (0, .ofNat 1))), (74, (0, .ofNat 2), .inr (false, (1, .ofNat 0))), (74, (0, .ofNat 3), .inl 75), (74, (0, .ofNat 5), .inr (false, (6, .ofNat 0))), (74, (0, .ofNat 7), .inl 77)], []), ((0, 4, .ofNat 5040), (0, 0, .ofNat 0), (0, 0, .ofNat 0)), 0, 0), 
  (34, (3, [(1, .ofNat 0, .ofNat 63), (2, .ofNat 0, .ofNat 128)], [], [(0, .inl 74), (1, .inl 3), (2, .inl 23), (3, .inr (false, (1, .ofNat 0))), (4, .inl 32), (5, .inr (false, (2, .ofNat 0)))], [], [(74, (0, .ofNat 1), .inr (false, (0, .ofNat 1))), (74, (0, .ofNat 2), .inr (false, (1, .ofNat 0))), (74, (0, .ofNat 5), .inr (false, (0, .negSucc 0)))], []), ((0, 2, .ofNat 5177), (0, 0, .ofNat 0), (0, 0, .ofNat 0)), 0, 0), 
  (75, (5, [(1, .ofNat 0, .ofNat 63), (2, .ofNat 0, .ofNat 7), (3, .ofNat 0, .ofNat 7), (4, .ofNat 0, .ofNat 12)], [(2, 4, .ofNat 0), (4, 2, .ofNat 5)], [(0, .inl 74), (1, .inl 3), (2, .inl 23), (3, .inr (false, (1, .ofNat 0))), (4, .inl 32), (5, .inr (false, (2, .ofNat 0))), (6, .inr (false, (3, .ofNat 0)))], [], [(3, (0, .ofNat 2), .inr (false, (4, .ofNat 0))), (74, (0, .ofNat 1), .inr (false, (0, .ofNat 1))), (74, (0, .ofNat 2), .inr (false, (1, .ofNat 0))), (74, (0, .ofNat 3), .inl 75), (74, (0, .ofNat 5), .inr (false, (0, .negSucc 0))), (74, (0, .ofNat 7), .inl 77)], []), ((0, 3, .ofNat 5048), (0, 0, .ofNat 0), (0, 0, .ofNat 0)), 0, 0)]
set_option maxRecDepth 1000000 in
theorem cv1045 {gh : sxGh} (hg : sxGd sxKw gh) : sxCtV sxKw gh ct1045 := sxMeB_ok (cts := [ct898, ct811, ct895, ct896]) (cuts := cu1045) (sp := []) 179 (by decide +kernel) hg (by decide) (by decide) (List.forall_mem_cons.mpr ⟨cv898 hg, (List.forall_mem_cons.mpr ⟨cv811 hg, (List.forall_mem_cons.mpr ⟨cv895 hg, (List.forall_mem_cons.mpr ⟨cv896 hg, (fun _ h => absurd h List.not_mem_nil)⟩)⟩)⟩)⟩)
/-- LotBeliefs.Survey.take -/
def ct1046 : sxCt := (69, 5, (2, [(1, .ofNat 0, .ofNat 63)], [], [(0, .inl 74), (1, .inl 3), (2, .inl 19), (3, .inr (false, (1, .ofNat 0))), (4, .inl 32)], [], [], []), [(21, 0), (22, 0), (25, 0), (26, 0), (32, 1), (32, 2), (32, 3), (32, 4), (32, 9), (32, 11), (32, 12), (33, 0), (34, 0), (35, 0), (36, 0), (37, 0), (74, 2), (74, 3), (74, 6), (74, 7), (75, 0), (76, 0), (77, 0)], [
  (3, [(1, .ofNat 0, .ofNat 63), (2, .ofNat 0, .ofNat 63)], [(1, 2, .ofNat 0), (2, 1, .ofNat 0)], [], [], [(74, (0, .ofNat 1), .inr (false, (0, .ofNat 1))), (74, (0, .ofNat 2), .inr (false, (2, .ofNat 0)))], [])], [], 0, 0)
def cu1046 : List sxCu := [
  (115, (7, [(1, .ofNat 0, .ofNat 63), (2, .ofNat 0, .ofNat 7), (3, .negSucc 0, .ofNat 5), (4, .ofNat 0, .ofNat 5040), (5, .ofNat 0, .ofNat 12), (6, .negSucc 2147483647, .ofNat 2147483647)], [(2, 5, .ofNat 0), (5, 2, .ofNat 5)], [(0, .inl 74), (1, .inl 3), (2, .inl 19), (3, .inr (false, (1, .ofNat 0))), (4, .inl 32), (5, .inr (false, (2, .ofNat 0))), (6, .inr (false, (3, .ofNat 0))), (7, .inr (false, (4, .ofNat 0)))], [], [(3, (0, .ofNat 2), .inr (false, (5, .ofNat 0))), (32, (0, .ofNat 0), .inl 3), (32, (0, .ofNat 1), .inl 19), (32, (0, .ofNat 2), .inr (false, (0, .ofNat 4))), (32, (0, .ofNat 3), .inr (false, (1, .ofNat 0))), (74, (0, .ofNat 0), .inr (false, (0, .ofNat 4))), (74, (0, .ofNat 1), .inr (false, (0, .ofNat 1))), (74, (0, .ofNat 2), .inr (false, (1, .ofNat 0))), (74, (0, .ofNat 3), .inl 75), (74, (0, .ofNat 5), .inr (false, (6, .ofNat 0))), (74, (0, .ofNat 7), .inl 77)], []), ((0, 4, .ofNat 5040), (0, 0, .ofNat 0), (0, 0, .ofNat 0)), 0, 0), 
  (34, (3, [(1, .ofNat 0, .ofNat 63), (2, .ofNat 0, .ofNat 128)], [], [(0, .inl 74), (1, .inl 3), (2, .inl 19), (3, .inr (false, (1, .ofNat 0))), (4, .inl 32), (5, .inr (false, (2, .ofNat 0)))], [], [(74, (0, .ofNat 1), .inr (false, (0, .ofNat 1))), (74, (0, .ofNat 2), .inr (false, (1, .ofNat 0))), (74, (0, .ofNat 5), .inr (false, (0, .negSucc 0)))], []), ((0, 2, .ofNat 5177), (0, 0, .ofNat 0), (0, 0, .ofNat 0)), 0, 0), 
  (75, (5, [(1, .ofNat 0, .ofNat 63), (2, .ofNat 0, .ofNat 7), (3, .ofNat 0, .ofNat 7), (4, .ofNat 0, .ofNat 12)], [(2, 4, .ofNat 0), (4, 2, .ofNat 5)], [(0, .inl 74), (1, .inl 3), (2, .inl 19), (3, .inr (false, (1, .ofNat 0))), (4, .inl 32), (5, .inr (false, (2, .ofNat 0))), (6, .inr (false, (3, .ofNat 0)))], [], [(3, (0, .ofNat 2), .inr (false, (4, .ofNat 0))), (74, (0, .ofNat 1), .inr (false, (0, .ofNat 1))), (74, (0, .ofNat 2), .inr (false, (1, .ofNat 0))), (74, (0, .ofNat 3), .inl 75), (74, (0, .ofNat 5), .inr (false, (0, .negSucc 0))), (74, (0, .ofNat 7), .inl 77)], []), ((0, 3, .ofNat 5048), (0, 0, .ofNat 0), (0, 0, .ofNat 0)), 0, 0)]
set_option maxRecDepth 1000000 in
theorem cv1046 {gh : sxGh} (hg : sxGd sxKw gh) : sxCtV sxKw gh ct1046 := sxMeB_ok (cts := [ct898, ct811, ct895, ct896]) (cuts := cu1046) (sp := []) 179 (by decide +kernel) hg (by decide) (by decide) (List.forall_mem_cons.mpr ⟨cv898 hg, (List.forall_mem_cons.mpr ⟨cv811 hg, (List.forall_mem_cons.mpr ⟨cv895 hg, (List.forall_mem_cons.mpr ⟨cv896 hg, (fun _ h => absurd h List.not_mem_nil)⟩)⟩)⟩)⟩)
/-- LotBeliefs.Survey.take -/
def ct1047 : sxCt := (69, 5, (2, [(1, .ofNat 0, .ofNat 63)], [], [(0, .inl 70), (1, .inl 3), (2, .inl 23), (3, .inr (false, (1, .ofNat 0))), (4, .inl 32)], [], [], []), [(21, 0), (22, 0), (25, 0), (26, 0), (32, 1), (32, 2), (32, 3), (32, 4), (32, 9), (32, 11), (32, 12), (33, 0), (34, 0), (35, 0), (36, 0), (37, 0), (70, 2), (70, 3), (70, 6), (70, 7), (71, 0), (72, 0), (73, 0)], [
  (3, [(1, .ofNat 0, .ofNat 63), (2, .ofNat 0, .ofNat 63)], [(1, 2, .ofNat 0), (2, 1, .ofNat 0)], [], [], [(70, (0, .ofNat 1), .inr (false, (0, .ofNat 1))), (70, (0, .ofNat 2), .inr (false, (2, .ofNat 0)))], [])], [], 0, 0)
def cu1047 : List sxCu := [
  (115, (7, [(1, .ofNat 0, .ofNat 63), (2, .ofNat 0, .ofNat 7), (3, .negSucc 0, .ofNat 5), (4, .ofNat 0, .ofNat 5040), (5, .ofNat 0, .ofNat 12), (6, .negSucc 2147483647, .ofNat 2147483647)], [(2, 5, .ofNat 0), (5, 2, .ofNat 5)], [(0, .inl 70), (1, .inl 3), (2, .inl 23), (3, .inr (false, (1, .ofNat 0))), (4, .inl 32), (5, .inr (false, (2, .ofNat 0))), (6, .inr (false, (3, .ofNat 0))), (7, .inr (false, (4, .ofNat 0)))], [], [(3, (0, .ofNat 2), .inr (false, (5, .ofNat 0))), (32, (0, .ofNat 0), .inl 3), (32, (0, .ofNat 1), .inl 23), (32, (0, .ofNat 2), .inr (false, (0, .ofNat 3))), (32, (0, .ofNat 3), .inr (false, (1, .ofNat 0))), (70, (0, .ofNat 0), .inr (false, (0, .ofNat 3))), (70, (0, .ofNat 1), .inr (false, (0, .ofNat 1))), (70, (0, .ofNat 2), .inr (false, (1, .ofNat 0))), (70, (0, .ofNat 3), .inl 71), (70, (0, .ofNat 5), .inr (false, (6, .ofNat 0))), (70, (0, .ofNat 7), .inl 73)], []), ((0, 4, .ofNat 5040), (0, 0, .ofNat 0), (0, 0, .ofNat 0)), 0, 0), 
  (34, (3, [(1, .ofNat 0, .ofNat 63), (2, .ofNat 0, .ofNat 128)], [], [(0, .inl 70), (1, .inl 3), (2, .inl 23), (3, .inr (false, (1, .ofNat 0))), (4, .inl 32), (5, .inr (false, (2, .ofNat 0)))], [], [(70, (0, .ofNat 1), .inr (false, (0, .ofNat 1))), (70, (0, .ofNat 2), .inr (false, (1, .ofNat 0))), (70, (0, .ofNat 5), .inr (false, (0, .negSucc 0)))], []), ((0, 2, .ofNat 5177), (0, 0, .ofNat 0), (0, 0, .ofNat 0)), 0, 0), 
  (75, (5, [(1, .ofNat 0, .ofNat 63), (2, .ofNat 0, .ofNat 7), (3, .ofNat 0, .ofNat 7), (4, .ofNat 0, .ofNat 12)], [(2, 4, .ofNat 0), (4, 2, .ofNat 5)], [(0, .inl 70), (1, .inl 3), (2, .inl 23), (3, .inr (false, (1, .ofNat 0))), (4, .inl 32), (5, .inr (false, (2, .ofNat 0))), (6, .inr (false, (3, .ofNat 0)))], [], [(3, (0, .ofNat 2), .inr (false, (4, .ofNat 0))), (70, (0, .ofNat 1), .inr (false, (0, .ofNat 1))), (70, (0, .ofNat 2), .inr (false, (1, .ofNat 0))), (70, (0, .ofNat 3), .inl 71), (70, (0, .ofNat 5), .inr (false, (0, .negSucc 0))), (70, (0, .ofNat 7), .inl 73)], []), ((0, 3, .ofNat 5048), (0, 0, .ofNat 0), (0, 0, .ofNat 0)), 0, 0)]
set_option maxRecDepth 1000000 in
theorem cv1047 {gh : sxGh} (hg : sxGd sxKw gh) : sxCtV sxKw gh ct1047 := sxMeB_ok (cts := [ct934, ct811, ct931, ct932]) (cuts := cu1047) (sp := []) 179 (by decide +kernel) hg (by decide) (by decide) (List.forall_mem_cons.mpr ⟨cv934 hg, (List.forall_mem_cons.mpr ⟨cv811 hg, (List.forall_mem_cons.mpr ⟨cv931 hg, (List.forall_mem_cons.mpr ⟨cv932 hg, (fun _ h => absurd h List.not_mem_nil)⟩)⟩)⟩)⟩)
/-- LotBeliefs.Survey.take -/
def ct1048 : sxCt := (69, 5, (2, [(1, .ofNat 0, .ofNat 63)], [], [(0, .inl 70), (1, .inl 3), (2, .inl 19), (3, .inr (false, (1, .ofNat 0))), (4, .inl 32)], [], [], []), [(21, 0), (22, 0), (25, 0), (26, 0), (32, 1), (32, 2), (32, 3), (32, 4), (32, 9), (32, 11), (32, 12), (33, 0), (34, 0), (35, 0), (36, 0), (37, 0), (70, 2), (70, 3), (70, 6), (70, 7), (71, 0), (72, 0), (73, 0)], [
  (3, [(1, .ofNat 0, .ofNat 63), (2, .ofNat 0, .ofNat 63)], [(1, 2, .ofNat 0), (2, 1, .ofNat 0)], [], [], [(70, (0, .ofNat 1), .inr (false, (0, .ofNat 1))), (70, (0, .ofNat 2), .inr (false, (2, .ofNat 0)))], [])], [], 0, 0)
def cu1048 : List sxCu := [
  (115, (7, [(1, .ofNat 0, .ofNat 63), (2, .ofNat 0, .ofNat 7), (3, .negSucc 0, .ofNat 5), (4, .ofNat 0, .ofNat 5040), (5, .ofNat 0, .ofNat 12), (6, .negSucc 2147483647, .ofNat 2147483647)], [(2, 5, .ofNat 0), (5, 2, .ofNat 5)], [(0, .inl 70), (1, .inl 3), (2, .inl 19), (3, .inr (false, (1, .ofNat 0))), (4, .inl 32), (5, .inr (false, (2, .ofNat 0))), (6, .inr (false, (3, .ofNat 0))), (7, .inr (false, (4, .ofNat 0)))], [], [(3, (0, .ofNat 2), .inr (false, (5, .ofNat 0))), (32, (0, .ofNat 0), .inl 3), (32, (0, .ofNat 1), .inl 19), (32, (0, .ofNat 2), .inr (false, (0, .ofNat 3))), (32, (0, .ofNat 3), .inr (false, (1, .ofNat 0))), (70, (0, .ofNat 0), .inr (false, (0, .ofNat 3))), (70, (0, .ofNat 1), .inr (false, (0, .ofNat 1))), (70, (0, .ofNat 2), .inr (false, (1, .ofNat 0))), (70, (0, .ofNat 3), .inl 71), (70, (0, .ofNat 5), .inr (false, (6, .ofNat 0))), (70, (0, .ofNat 7), .inl 73)], []), ((0, 4, .ofNat 5040), (0, 0, .ofNat 0), (0, 0, .ofNat 0)), 0, 0), 
  (34, (3, [(1, .ofNat 0, .ofNat 63), (2, .ofNat 0, .ofNat 128)], [], [(0, .inl 70), (1, .inl 3), (2, .inl 19), (3, .inr (false, (1, .ofNat 0))), (4, .inl 32), (5, .inr (false, (2, .ofNat 0)))], [], [(70, (0, .ofNat 1), .inr (false, (0, .ofNat 1))), (70, (0, .ofNat 2), .inr (false, (1, .ofNat 0))), (70, (0, .ofNat 5), .inr (false, (0, .negSucc 0)))], []), ((0, 2, .ofNat 5177), (0, 0, .ofNat 0), (0, 0, .ofNat 0)), 0, 0), 
  (75, (5, [(1, .ofNat 0, .ofNat 63), (2, .ofNat 0, .ofNat 7), (3, .ofNat 0, .ofNat 7), (4, .ofNat 0, .ofNat 12)], [(2, 4, .ofNat 0), (4, 2, .ofNat 5)], [(0, .inl 70), (1, .inl 3), (2, .inl 19), (3, .inr (false, (1, .ofNat 0))), (4, .inl 32), (5, .inr (false, (2, .ofNat 0))), (6, .inr (false, (3, .ofNat 0)))], [], [(3, (0, .ofNat 2), .inr (false, (4, .ofNat 0))), (70, (0, .ofNat 1), .inr (false, (0, .ofNat 1))), (70, (0, .ofNat 2), .inr (false, (1, .ofNat 0))), (70, (0, .ofNat 3), .inl 71), (70, (0, .ofNat 5), .inr (false, (0, .negSucc 0))), (70, (0, .ofNat 7), .inl 73)], []), ((0, 3, .ofNat 5048), (0, 0, .ofNat 0), (0, 0, .ofNat 0)), 0, 0)]
set_option maxRecDepth 1000000 in
theorem cv1048 {gh : sxGh} (hg : sxGd sxKw gh) : sxCtV sxKw gh ct1048 := sxMeB_ok (cts := [ct934, ct811, ct931, ct932]) (cuts := cu1048) (sp := []) 179 (by decide +kernel) hg (by decide) (by decide) (List.forall_mem_cons.mpr ⟨cv934 hg, (List.forall_mem_cons.mpr ⟨cv811 hg, (List.forall_mem_cons.mpr ⟨cv931 hg, (List.forall_mem_cons.mpr ⟨cv932 hg, (fun _ h => absurd h List.not_mem_nil)⟩)⟩)⟩)⟩)
/-- LotBeliefs.Survey.take -/
def ct1049 : sxCt := (69, 5, (2, [(1, .ofNat 0, .ofNat 63)], [], [(0, .inl 66), (1, .inl 3), (2, .inl 23), (3, .inr (false, (1, .ofNat 0))), (4, .inl 32)], [], [], []), [(21, 0), (22, 0), (25, 0), (26, 0), (32, 1), (32, 2), (32, 3), (32, 4), (32, 9), (32, 11), (32, 12), (33, 0), (34, 0), (35, 0), (36, 0), (37, 0), (66, 2), (66, 3), (66, 6), (66, 7), (67, 0), (68, 0), (69, 0)], [
  (3, [(1, .ofNat 0, .ofNat 63), (2, .ofNat 0, .ofNat 63)], [(1, 2, .ofNat 0), (2, 1, .ofNat 0)], [], [], [(66, (0, .ofNat 1), .inr (false, (0, .ofNat 1))), (66, (0, .ofNat 2), .inr (false, (2, .ofNat 0)))], [])], [], 0, 0)
def cu1049 : List sxCu := [
  (115, (7, [(1, .ofNat 0, .ofNat 63), (2, .ofNat 0, .ofNat 7), (3, .negSucc 0, .ofNat 5), (4, .ofNat 0, .ofNat 5040), (5, .ofNat 0, .ofNat 12), (6, .negSucc 2147483647, .ofNat 2147483647)], [(2, 5, .ofNat 0), (5, 2, .ofNat 5)], [(0, .inl 66), (1, .inl 3), (2, .inl 23), (3, .inr (false, (1, .ofNat 0))), (4, .inl 32), (5, .inr (false, (2, .ofNat 0))), (6, .inr (false, (3, .ofNat 0))), (7, .inr (false, (4, .ofNat 0)))], [], [(3, (0, .ofNat 2), .inr (false, (5, .ofNat 0))), (32, (0, .ofNat 0), .inl 3), (32, (0, .ofNat 1), .inl 23), (32, (0, .ofNat 2), .inr (false, (0, .ofNat 2))), (32, (0, .ofNat 3), .inr (false, (1, .ofNat 0))), (66, (0, .ofNat 0), .inr (false, (0, .ofNat 2))), (66, (0, .ofNat 1), .inr (false, (0, .ofNat 1))), (66, (0, .ofNat 2), .inr (false, (1, .ofNat 0))), (66, (0, .ofNat 3), .inl 67), (66, (0, .ofNat 5), .inr (false, (6, .ofNat 0))), (66, (0, .ofNat 7), .inl 69)], []), ((0, 4, .ofNat 5040), (0, 0, .ofNat 0), (0, 0, .ofNat 0)), 0, 0), 
  (34, (3, [(1, .ofNat 0, .ofNat 63), (2, .ofNat 0, .ofNat 128)], [], [(0, .inl 66), (1, .inl 3), (2, .inl 23), (3, .inr (false, (1, .ofNat 0))), (4, .inl 32), (5, .inr (false, (2, .ofNat 0)))], [], [(66, (0, .ofNat 1), .inr (false, (0, .ofNat 1))), (66, (0, .ofNat 2), .inr (false, (1, .ofNat 0))), (66, (0, .ofNat 5), .inr (false, (0, .negSucc 0)))], []), ((0, 2, .ofNat 5177), (0, 0, .ofNat 0), (0, 0, .ofNat 0)), 0, 0), 
  (75, (5, [(1, .ofNat 0, .ofNat 63), (2, .ofNat 0, .ofNat 7), (3, .ofNat 0, .ofNat 7), (4, .ofNat 0, .ofNat 12)], [(2, 4, .ofNat 0), (4, 2, .ofNat 5)], [(0, .inl 66), (1, .inl 3), (2, .inl 23), (3, .inr (false, (1, .ofNat 0))), (4, .inl 32), (5, .inr (false, (2, .ofNat 0))), (6, .inr (false, (3, .ofNat 0)))], [], [(3, (0, .ofNat 2), .inr (false, (4, .ofNat 0))), (66, (0, .ofNat 1), .inr (false, (0, .ofNat 1))), (66, (0, .ofNat 2), .inr (false, (1, .ofNat 0))), (66, (0, .ofNat 3), .inl 67), (66, (0, .ofNat 5), .inr (false, (0, .negSucc 0))), (66, (0, .ofNat 7), .inl 69)], []), ((0, 3, .ofNat 5048), (0, 0, .ofNat 0), (0, 0, .ofNat 0)), 0, 0)]
set_option maxRecDepth 1000000 in
theorem cv1049 {gh : sxGh} (hg : sxGd sxKw gh) : sxCtV sxKw gh ct1049 := sxMeB_ok (cts := [ct970, ct811, ct967, ct968]) (cuts := cu1049) (sp := []) 179 (by decide +kernel) hg (by decide) (by decide) (List.forall_mem_cons.mpr ⟨cv970 hg, (List.forall_mem_cons.mpr ⟨cv811 hg, (List.forall_mem_cons.mpr ⟨cv967 hg, (List.forall_mem_cons.mpr ⟨cv968 hg, (fun _ h => absurd h List.not_mem_nil)⟩)⟩)⟩)⟩)
/-- LotBeliefs.Survey.take -/
def ct1050 : sxCt := (69, 5, (2, [(1, .ofNat 0, .ofNat 63)], [], [(0, .inl 66), (1, .inl 3), (2, .inl 19), (3, .inr (false, (1, .ofNat 0))), (4, .inl 32)], [], [], []), [(21, 0), (22, 0), (25, 0), (26, 0), (32, 1), (32, 2), (32, 3), (32, 4), (32, 9), (32, 11), (32, 12), (33, 0), (34, 0), (35, 0), (36, 0), (37, 0), (66, 2), (66, 3), (66, 6), (66, 7), (67, 0), (68, 0), (69, 0)], [
  (3, [(1, .ofNat 0, .ofNat 63), (2, .ofNat 0, .ofNat 63)], [(1, 2, .ofNat 0), (2, 1, .ofNat 0)], [], [], [(66, (0, .ofNat 1), .inr (false, (0, .ofNat 1))), (66, (0, .ofNat 2), .inr (false, (2, .ofNat 0)))], [])], [], 0, 0)
def cu1050 : List sxCu := [
  (115, (7, [(1, .ofNat 0, .ofNat 63), (2, .ofNat 0, .ofNat 7), (3, .negSucc 0, .ofNat 5), (4, .ofNat 0, .ofNat 5040), (5, .ofNat 0, .ofNat 12), (6, .negSucc 2147483647, .ofNat 2147483647)], [(2, 5, .ofNat 0), (5, 2, .ofNat 5)], [(0, .inl 66), (1, .inl 3), (2, .inl 19), (3, .inr (false, (1, .ofNat 0))), (4, .inl 32), (5, .inr (false, (2, .ofNat 0))), (6, .inr (false, (3, .ofNat 0))), (7, .inr (false, (4, .ofNat 0)))], [], [(3, (0, .ofNat 2), .inr (false, (5, .ofNat 0))), (32, (0, .ofNat 0), .inl 3), (32, (0, .ofNat 1), .inl 19), (32, (0, .ofNat 2), .inr (false, (0, .ofNat 2))), (32, (0, .ofNat 3), .inr (false, (1, .ofNat 0))), (66, (0, .ofNat 0), .inr (false, (0, .ofNat 2))), (66, (0, .ofNat 1), .inr (false, (0, .ofNat 1))), (66, (0, .ofNat 2), .inr (false, (1, .ofNat 0))), (66, (0, .ofNat 3), .inl 67), (66, (0, .ofNat 5), .inr (false, (6, .ofNat 0))), (66, (0, .ofNat 7), .inl 69)], []), ((0, 4, .ofNat 5040), (0, 0, .ofNat 0), (0, 0, .ofNat 0)), 0, 0), 
  (34, (3, [(1, .ofNat 0, .ofNat 63), (2, .ofNat 0, .ofNat 128)], [], [(0, .inl 66), (1, .inl 3), (2, .inl 19), (3, .inr (false, (1, .ofNat 0))), (4, .inl 32), (5, .inr (false, (2, .ofNat 0)))], [], [(66, (0, .ofNat 1), .inr (false, (0, .ofNat 1))), (66, (0, .ofNat 2), .inr (false, (1, .ofNat 0))), (66, (0, .ofNat 5), .inr (false, (0, .negSucc 0)))], []), ((0, 2, .ofNat 5177), (0, 0, .ofNat 0), (0, 0, .ofNat 0)), 0, 0), 
  (75, (5, [(1, .ofNat 0, .ofNat 63), (2, .ofNat 0, .ofNat 7), (3, .ofNat 0, .ofNat 7), (4, .ofNat 0, .ofNat 12)], [(2, 4, .ofNat 0), (4, 2, .ofNat 5)], [(0, .inl 66), (1, .inl 3), (2, .inl 19), (3, .inr (false, (1, .ofNat 0))), (4, .inl 32), (5, .inr (false, (2, .ofNat 0))), (6, .inr (false, (3, .ofNat 0)))], [], [(3, (0, .ofNat 2), .inr (false, (4, .ofNat 0))), (66, (0, .ofNat 1), .inr (false, (0, .ofNat 1))), (66, (0, .ofNat 2), .inr (false, (1, .ofNat 0))), (66, (0, .ofNat 3), .inl 67), (66, (0, .ofNat 5), .inr (false, (0, .negSucc 0))), (66, (0, .ofNat 7), .inl 69)], []), ((0, 3, .ofNat 5048), (0, 0, .ofNat 0), (0, 0, .ofNat 0)), 0, 0)]
set_option maxRecDepth 1000000 in
theorem cv1050 {gh : sxGh} (hg : sxGd sxKw gh) : sxCtV sxKw gh ct1050 := sxMeB_ok (cts := [ct970, ct811, ct967, ct968]) (cuts := cu1050) (sp := []) 179 (by decide +kernel) hg (by decide) (by decide) (List.forall_mem_cons.mpr ⟨cv970 hg, (List.forall_mem_cons.mpr ⟨cv811 hg, (List.forall_mem_cons.mpr ⟨cv967 hg, (List.forall_mem_cons.mpr ⟨cv968 hg, (fun _ h => absurd h List.not_mem_nil)⟩)⟩)⟩)⟩)
/-- LotBeliefs.Survey.take -/
def ct1051 : sxCt := (69, 5, (2, [(1, .ofNat 0, .ofNat 63)], [], [(0, .inl 62), (1, .inl 3), (2, .inl 23), (3, .inr (false, (1, .ofNat 0))), (4, .inl 32)], [], [], []), [(21, 0), (22, 0), (25, 0), (26, 0), (32, 1), (32, 2), (32, 3), (32, 4), (32, 9), (32, 11), (32, 12), (33, 0), (34, 0), (35, 0), (36, 0), (37, 0), (62, 2), (62, 3), (62, 6), (62, 7), (63, 0), (64, 0), (65, 0)], [
  (3, [(1, .ofNat 0, .ofNat 63), (2, .ofNat 0, .ofNat 63)], [(1, 2, .ofNat 0), (2, 1, .ofNat 0)], [], [], [(62, (0, .ofNat 1), .inr (false, (0, .ofNat 1))), (62, (0, .ofNat 2), .inr (false, (2, .ofNat 0)))], [])], [], 0, 0)
def cu1051 : List sxCu := [
  (115, (7, [(1, .ofNat 0, .ofNat 63), (2, .ofNat 0, .ofNat 7), (3, .negSucc 0, .ofNat 5), (4, .ofNat 0, .ofNat 5040), (5, .ofNat 0, .ofNat 12), (6, .negSucc 2147483647, .ofNat 2147483647)], [(2, 5, .ofNat 0), (5, 2, .ofNat 5)], [(0, .inl 62), (1, .inl 3), (2, .inl 23), (3, .inr (false, (1, .ofNat 0))), (4, .inl 32), (5, .inr (false, (2, .ofNat 0))), (6, .inr (false, (3, .ofNat 0))), (7, .inr (false, (4, .ofNat 0)))], [], [(3, (0, .ofNat 2), .inr (false, (5, .ofNat 0))), (32, (0, .ofNat 0), .inl 3), (32, (0, .ofNat 1), .inl 23), (32, (0, .ofNat 2), .inr (false, (0, .ofNat 1))), (32, (0, .ofNat 3), .inr (false, (1, .ofNat 0))), (62, (0, .ofNat 0), .inr (false, (0, .ofNat 1))), (62, (0, .ofNat 1), .inr (false, (0, .ofNat 1))), (62, (0, .ofNat 2), .inr (false, (1, .ofNat 0))), (62, (0, .ofNat 3), .inl 63), (62, (0, .ofNat 5), .inr (false, (6, .ofNat 0))), (62, (0, .ofNat 7), .inl 65)], []), ((0, 4, .ofNat 5040), (0, 0, .ofNat 0), (0, 0, .ofNat 0)), 0, 0), 
  (34, (3, [(1, .ofNat 0, .ofNat 63), (2, .ofNat 0, .ofNat 128)], [], [(0, .inl 62), (1, .inl 3), (2, .inl 23), (3, .inr (false, (1, .ofNat 0))), (4, .inl 32), (5, .inr (false, (2, .ofNat 0)))], [], [(62, (0, .ofNat 1), .inr (false, (0, .ofNat 1))), (62, (0, .ofNat 2), .inr (false, (1, .ofNat 0))), (62, (0, .ofNat 5), .inr (false, (0, .negSucc 0)))], []), ((0, 2, .ofNat 5177), (0, 0, .ofNat 0), (0, 0, .ofNat 0)), 0, 0), 
  (75, (5, [(1, .ofNat 0, .ofNat 63), (2, .ofNat 0, .ofNat 7), (3, .ofNat 0, .ofNat 7), (4, .ofNat 0, .ofNat 12)], [(2, 4, .ofNat 0), (4, 2, .ofNat 5)], [(0, .inl 62), (1, .inl 3), (2, .inl 23), (3, .inr (false, (1, .ofNat 0))), (4, .inl 32), (5, .inr (false, (2, .ofNat 0))), (6, .inr (false, (3, .ofNat 0)))], [], [(3, (0, .ofNat 2), .inr (false, (4, .ofNat 0))), (62, (0, .ofNat 1), .inr (false, (0, .ofNat 1))), (62, (0, .ofNat 2), .inr (false, (1, .ofNat 0))), (62, (0, .ofNat 3), .inl 63), (62, (0, .ofNat 5), .inr (false, (0, .negSucc 0))), (62, (0, .ofNat 7), .inl 65)], []), ((0, 3, .ofNat 5048), (0, 0, .ofNat 0), (0, 0, .ofNat 0)), 0, 0)]
set_option maxRecDepth 1000000 in
theorem cv1051 {gh : sxGh} (hg : sxGd sxKw gh) : sxCtV sxKw gh ct1051 := sxMeB_ok (cts := [ct1006, ct811, ct1003, ct1004]) (cuts := cu1051) (sp := []) 179 (by decide +kernel) hg (by decide) (by decide) (List.forall_mem_cons.mpr ⟨cv1006 hg, (List.forall_mem_cons.mpr ⟨cv811 hg, (List.forall_mem_cons.mpr ⟨cv1003 hg, (List.forall_mem_cons.mpr ⟨cv1004 hg, (fun _ h => absurd h List.not_mem_nil)⟩)⟩)⟩)⟩)
/-- LotBeliefs.Survey.take -/
def ct1052 : sxCt := (69, 5, (2, [(1, .ofNat 0, .ofNat 63)], [], [(0, .inl 62), (1, .inl 3), (2, .inl 19), (3, .inr (false, (1, .ofNat 0))), (4, .inl 32)], [], [], []), [(21, 0), (22, 0), (25, 0), (26, 0), (32, 1), (32, 2), (32, 3), (32, 4), (32, 9), (32, 11), (32, 12), (33, 0), (34, 0), (35, 0), (36, 0), (37, 0), (62, 2), (62, 3), (62, 6), (62, 7), (63, 0), (64, 0), (65, 0)], [
  (3, [(1, .ofNat 0, .ofNat 63), (2, .ofNat 0, .ofNat 63)], [(1, 2, .ofNat 0), (2, 1, .ofNat 0)], [], [], [(62, (0, .ofNat 1), .inr (false, (0, .ofNat 1))), (62, (0, .ofNat 2), .inr (false, (2, .ofNat 0)))], [])], [], 0, 0)
def cu1052 : List sxCu := [
  (115, (7, [(1, .ofNat 0, .ofNat 63), (2, .ofNat 0, .ofNat 7), (3, .negSucc 0, .ofNat 5), (4, .ofNat 0, .ofNat 5040), (5, .ofNat 0, .ofNat 12), (6, .negSucc 2147483647, .ofNat 2147483647)], [(2, 5, .ofNat 0), (5, 2, .ofNat 5)], [(0, .inl 62), (1, .inl 3), (2, .inl 19), (3, .inr (false, (1, .ofNat 0))), (4, .inl 32), (5, .inr (false, (2, .ofNat 0))), (6, .inr (false, (3, .ofNat 0))), (7, .inr (false, (4, .ofNat 0)))], [], [(3, (0, .ofNat 2), .inr (false, (5, .ofNat 0))), (32, (0, .ofNat 0), .inl 3), (32, (0, .ofNat 1), .inl 19), (32, (0, .ofNat 2), .inr (false, (0, .ofNat 1))), (32, (0, .ofNat 3), .inr (false, (1, .ofNat 0))), (62, (0, .ofNat 0), .inr (false, (0, .ofNat 1))), (62, (0, .ofNat 1), .inr (false, (0, .ofNat 1))), (62, (0, .ofNat 2), .inr (false, (1, .ofNat 0))), (62, (0, .ofNat 3), .inl 63), (62, (0, .ofNat 5), .inr (false, (6, .ofNat 0))), (62, (0, .ofNat 7), .inl 65)], []), ((0, 4, .ofNat 5040), (0, 0, .ofNat 0), (0, 0, .ofNat 0)), 0, 0), 
  (34, (3, [(1, .ofNat 0, .ofNat 63), (2, .ofNat 0, .ofNat 128)], [], [(0, .inl 62), (1, .inl 3), (2, .inl 19), (3, .inr (false, (1, .ofNat 0))), (4, .inl 32), (5, .inr (false, (2, .ofNat 0)))], [], [(62, (0, .ofNat 1), .inr (false, (0, .ofNat 1))), (62, (0, .ofNat 2), .inr (false, (1, .ofNat 0))), (62, (0, .ofNat 5), .inr (false, (0, .negSucc 0)))], []), ((0, 2, .ofNat 5177), (0, 0, .ofNat 0), (0, 0, .ofNat 0)), 0, 0), 
  (75, (5, [(1, .ofNat 0, .ofNat 63), (2, .ofNat 0, .ofNat 7), (3, .ofNat 0, .ofNat 7), (4, .ofNat 0, .ofNat 12)], [(2, 4, .ofNat 0), (4, 2, .ofNat 5)], [(0, .inl 62), (1, .inl 3), (2, .inl 19), (3, .inr (false, (1, .ofNat 0))), (4, .inl 32), (5, .inr (false, (2, .ofNat 0))), (6, .inr (false, (3, .ofNat 0)))], [], [(3, (0, .ofNat 2), .inr (false, (4, .ofNat 0))), (62, (0, .ofNat 1), .inr (false, (0, .ofNat 1))), (62, (0, .ofNat 2), .inr (false, (1, .ofNat 0))), (62, (0, .ofNat 3), .inl 63), (62, (0, .ofNat 5), .inr (false, (0, .negSucc 0))), (62, (0, .ofNat 7), .inl 65)], []), ((0, 3, .ofNat 5048), (0, 0, .ofNat 0), (0, 0, .ofNat 0)), 0, 0)]
set_option maxRecDepth 1000000 in
theorem cv1052 {gh : sxGh} (hg : sxGd sxKw gh) : sxCtV sxKw gh ct1052 := sxMeB_ok (cts := [ct1006, ct811, ct1003, ct1004]) (cuts := cu1052) (sp := []) 179 (by decide +kernel) hg (by decide) (by decide) (List.forall_mem_cons.mpr ⟨cv1006 hg, (List.forall_mem_cons.mpr ⟨cv811 hg, (List.forall_mem_cons.mpr ⟨cv1003 hg, (List.forall_mem_cons.mpr ⟨cv1004 hg, (fun _ h => absurd h List.not_mem_nil)⟩)⟩)⟩)⟩)
/-- LotBeliefs.Survey.take -/
def ct1053 : sxCt := (69, 5, (2, [(1, .ofNat 0, .ofNat 63)], [], [(0, .inl 58), (1, .inl 3), (2, .inl 23), (3, .inr (false, (1, .ofNat 0))), (4, .inl 32)], [], [], []), [(21, 0), (22, 0), (25, 0), (26, 0), (32, 1), (32, 2), (32, 3), (32, 4), (32, 9), (32, 11), (32, 12), (33, 0), (34, 0), (35, 0), (36, 0), (37, 0), (58, 2), (58, 3), (58, 6), (58, 7), (59, 0), (60, 0), (61, 0)], [
  (3, [(1, .ofNat 0, .ofNat 63), (2, .ofNat 0, .ofNat 63)], [(1, 2, .ofNat 0), (2, 1, .ofNat 0)], [], [], [(58, (0, .ofNat 1), .inr (false, (0, .ofNat 1))), (58, (0, .ofNat 2), .inr (false, (2, .ofNat 0)))], [])], [], 0, 0)
def cu1053 : List sxCu := [
  (115, (7, [(1, .ofNat 0, .ofNat 63), (2, .ofNat 0, .ofNat 7), (3, .negSucc 0, .ofNat 5), (4, .ofNat 0, .ofNat 5040), (5, .ofNat 0, .ofNat 12), (6, .negSucc 2147483647, .ofNat 2147483647)], [(2, 5, .ofNat 0), (5, 2, .ofNat 5)], [(0, .inl 58), (1, .inl 3), (2, .inl 23), (3, .inr (false, (1, .ofNat 0))), (4, .inl 32), (5, .inr (false, (2, .ofNat 0))), (6, .inr (false, (3, .ofNat 0))), (7, .inr (false, (4, .ofNat 0)))], [], [(3, (0, .ofNat 2), .inr (false, (5, .ofNat 0))), (32, (0, .ofNat 0), .inl 3), (32, (0, .ofNat 1), .inl 23), (32, (0, .ofNat 2), .inr (false, (0, .ofNat 0))), (32, (0, .ofNat 3), .inr (false, (1, .ofNat 0))), (58, (0, .ofNat 0), .inr (false, (0, .ofNat 0))), (58, (0, .ofNat 1), .inr (false, (0, .ofNat 1))), (58, (0, .ofNat 2), .inr (false, (1, .ofNat 0))), (58, (0, .ofNat 3), .inl 59), (58, (0, .ofNat 5), .inr (false, (6, .ofNat 0))), (58, (0, .ofNat 7), .inl 61)], []), ((0, 4, .ofNat 5040), (0, 0, .ofNat 0), (0, 0, .ofNat 0)), 0, 0), 
  (34, (3, [(1, .ofNat 0, .ofNat 63), (2, .ofNat 0, .ofNat 128)], [], [(0, .inl 58), (1, .inl 3), (2, .inl 23), (3, .inr (false, (1, .ofNat 0))), (4, .inl 32), (5, .inr (false, (2, .ofNat 0)))], [], [(58, (0, .ofNat 1), .inr (false, (0, .ofNat 1))), (58, (0, .ofNat 2), .inr (false, (1, .ofNat 0))), (58, (0, .ofNat 5), .inr (false, (0, .negSucc 0)))], []), ((0, 2, .ofNat 5177), (0, 0, .ofNat 0), (0, 0, .ofNat 0)), 0, 0), 
  (75, (5, [(1, .ofNat 0, .ofNat 63), (2, .ofNat 0, .ofNat 7), (3, .ofNat 0, .ofNat 7), (4, .ofNat 0, .ofNat 12)], [(2, 4, .ofNat 0), (4, 2, .ofNat 5)], [(0, .inl 58), (1, .inl 3), (2, .inl 23), (3, .inr (false, (1, .ofNat 0))), (4, .inl 32), (5, .inr (false, (2, .ofNat 0))), (6, .inr (false, (3, .ofNat 0)))], [], [(3, (0, .ofNat 2), .inr (false, (4, .ofNat 0))), (58, (0, .ofNat 1), .inr (false, (0, .ofNat 1))), (58, (0, .ofNat 2), .inr (false, (1, .ofNat 0))), (58, (0, .ofNat 3), .inl 59), (58, (0, .ofNat 5), .inr (false, (0, .negSucc 0))), (58, (0, .ofNat 7), .inl 61)], []), ((0, 3, .ofNat 5048), (0, 0, .ofNat 0), (0, 0, .ofNat 0)), 0, 0)]
set_option maxRecDepth 1000000 in
theorem cv1053 {gh : sxGh} (hg : sxGd sxKw gh) : sxCtV sxKw gh ct1053 := sxMeB_ok (cts := [ct1042, ct811, ct1039, ct1040]) (cuts := cu1053) (sp := []) 179 (by decide +kernel) hg (by decide) (by decide) (List.forall_mem_cons.mpr ⟨cv1042 hg, (List.forall_mem_cons.mpr ⟨cv811 hg, (List.forall_mem_cons.mpr ⟨cv1039 hg, (List.forall_mem_cons.mpr ⟨cv1040 hg, (fun _ h => absurd h List.not_mem_nil)⟩)⟩)⟩)⟩)
/-- LotBeliefs.Survey.take -/
def ct1054 : sxCt := (69, 5, (2, [(1, .ofNat 0, .ofNat 63)], [], [(0, .inl 58), (1, .inl 3), (2, .inl 19), (3, .inr (false, (1, .ofNat 0))), (4, .inl 32)], [], [], []), [(21, 0), (22, 0), (25, 0), (26, 0), (32, 1), (32, 2), (32, 3), (32, 4), (32, 9), (32, 11), (32, 12), (33, 0), (34, 0), (35, 0), (36, 0), (37, 0), (58, 2), (58, 3), (58, 6), (58, 7), (59, 0), (60, 0), (61, 0)], [
  (3, [(1, .ofNat 0, .ofNat 63), (2, .ofNat 0, .ofNat 63)], [(1, 2, .ofNat 0), (2, 1, .ofNat 0)], [], [], [(58, (0, .ofNat 1), .inr (false, (0, .ofNat 1))), (58, (0, .ofNat 2), .inr (false, (2, .ofNat 0)))], [])], [], 0, 0)
def cu1054 : List sxCu := [
  (115, (7, [(1, .ofNat 0, .ofNat 63), (2, .ofNat 0, .ofNat 7), (3, .negSucc 0, .ofNat 5), (4, .ofNat 0, .ofNat 5040), (5, .ofNat 0, .ofNat 12), (6, .negSucc 2147483647, .ofNat 2147483647)], [(2, 5, .ofNat 0), (5, 2, .ofNat 5)], [(0, .inl 58), (1, .inl 3), (2, .inl 19), (3, .inr (false, (1, .ofNat 0))), (4, .inl 32), (5, .inr (false, (2, .ofNat 0))), (6, .inr (false, (3, .ofNat 0))), (7, .inr (false, (4, .ofNat 0)))], [], [(3, (0, .ofNat 2), .inr (false, (5, .ofNat 0))), (32, (0, .ofNat 0), .inl 3), (32, (0, .ofNat 1), .inl 19), (32, (0, .ofNat 2), .inr (false, (0, .ofNat 0))), (32, (0, .ofNat 3), .inr (false, (1, .ofNat 0))), (58, (0, .ofNat 0), .inr (false, (0, .ofNat 0))), (58, (0, .ofNat 1), .inr (false, (0, .ofNat 1))), (58, (0, .ofNat 2), .inr (false, (1, .ofNat 0))), (58, (0, .ofNat 3), .inl 59), (58, (0, .ofNat 5), .inr (false, (6, .ofNat 0))), (58, (0, .ofNat 7), .inl 61)], []), ((0, 4, .ofNat 5040), (0, 0, .ofNat 0), (0, 0, .ofNat 0)), 0, 0), 
  (34, (3, [(1, .ofNat 0, .ofNat 63), (2, .ofNat 0, .ofNat 128)], [], [(0, .inl 58), (1, .inl 3), (2, .inl 19), (3, .inr (false, (1, .ofNat 0))), (4, .inl 32), (5, .inr (false, (2, .ofNat 0)))], [], [(58, (0, .ofNat 1), .inr (false, (0, .ofNat 1))), (58, (0, .ofNat 2), .inr (false, (1, .ofNat 0))), (58, (0, .ofNat 5), .inr (false, (0, .negSucc 0)))], []), ((0, 2, .ofNat 5177), (0, 0, .ofNat 0), (0, 0, .ofNat 0)), 0, 0), 
  (75, (5, [(1, .ofNat 0, .ofNat 63), (2, .ofNat 0, .ofNat 7), (3, .ofNat 0, .ofNat 7), (4, .ofNat 0, .ofNat 12)], [(2, 4, .ofNat 0), (4, 2, .ofNat 5)], [(0, .inl 58), (1, .inl 3), (2, .inl 19), (3, .inr (false, (1, .ofNat 0))), (4, .inl 32), (5, .inr (false, (2, .ofNat 0))), (6, .inr (false, (3, .ofNat 0)))], [], [(3, (0, .ofNat 2), .inr (false, (4, .ofNat 0))), (58, (0, .ofNat 1), .inr (false, (0, .ofNat 1))), (58, (0, .ofNat 2), .inr (false, (1, .ofNat 0))), (58, (0, .ofNat 3), .inl 59), (58, (0, .ofNat 5), .inr (false, (0, .negSucc 0))), (58, (0, .ofNat 7), .inl 61)], []), ((0, 3, .ofNat 5048), (0, 0, .ofNat 0), (0, 0, .ofNat 0)), 0, 0)]
set_option maxRecDepth 1000000 in
theorem cv1054 {gh : sxGh} (hg : sxGd sxKw gh) : sxCtV sxKw gh ct1054 := sxMeB_ok (cts := [ct1042, ct811, ct1039, ct1040]) (cuts := cu1054) (sp := []) 179 (by decide +kernel) hg (by decide) (by decide) (List.forall_mem_cons.mpr ⟨cv1042 hg, (List.forall_mem_cons.mpr ⟨cv811 hg, (List.forall_mem_cons.mpr ⟨cv1039 hg, (List.forall_mem_cons.mpr ⟨cv1040 hg, (fun _ h => absurd h List.not_mem_nil)⟩)⟩)⟩)⟩)
/-- LotBeliefs.worst -/
def ct1055 : sxCt := (158, 6, (2, [(1, .negSucc 2147483647, .ofNat 2147483647)], [], [(0, .inl 0), (1, .inr (false, (1, .ofNat 0)))], [], [], []), [(21, 0), (22, 0), (25, 0), (26, 0), (30, 0), (32, 1), (32, 2), (32, 3), (32, 4), (32, 9), (32, 11), (32, 12), (33, 0), (34, 0), (35, 0), (36, 0), (37, 0), (58, 2), (58, 3), (58, 6), (58, 7), (59, 0), (60, 0), (61, 0), (62, 2), (62, 3), (62, 6), (62, 7), (63, 0), (64, 0), (65, 0), (66, 2), (66, 3), (66, 6), (66, 7), (67, 0), (68, 0), (69, 0), (70, 2), (70, 3), (70, 6), (70, 7), (71, 0), (72, 0), (73, 0), (74, 2), (74, 3), (74, 6), (74, 7), (75, 0), (76, 0), (77, 0)], [
  (3, [(1, .ofNat 0, .ofNat 1), (2, .negSucc 9223372036854775807, .ofNat 9223372036854775807)], [], [], [.inr (true, (2, .ofNat 0))], [], [])], [
  (1, (3, [(1, .negSucc 2147483647, .ofNat 2147483647), (2, .negSucc 2147483647, .ofNat 2147483647)], [], [], [], [(30, (0, .ofNat 1), .inr (false, (2, .ofNat 0)))], [])), 
  (2, (3, [(1, .ofNat 0, .ofNat 1), (2, .negSucc 2147483647, .ofNat 2147483647)], [], [], [], [(30, (0, .ofNat 2), .inr (false, (2, .ofNat 0)))], []))], 1, 6)
def cu1055 : List sxCu := []
set_option maxRecDepth 1000000 in
theorem cv1055 {gh : sxGh} (hg : sxGd sxKw gh) : sxCtV sxKw gh ct1055 := sxMeB_ok (cts := [ct899, ct900, ct971, ct972, ct1043, ct1044, ct1045, ct1046, ct1047, ct1048, ct1049, ct1050, ct1051, ct1052, ct1053, ct1054, ct935, ct936, ct1007, ct1008]) (cuts := cu1055) (sp := []) 570 (by decide +kernel) hg (by decide) (by decide) (List.forall_mem_cons.mpr ⟨cv899 hg, (List.forall_mem_cons.mpr ⟨cv900 hg, (List.forall_mem_cons.mpr ⟨cv971 hg, (List.forall_mem_cons.mpr ⟨cv972 hg, (List.forall_mem_cons.mpr ⟨cv1043 hg, (List.forall_mem_cons.mpr ⟨cv1044 hg, (List.forall_mem_cons.mpr ⟨cv1045 hg, (List.forall_mem_cons.mpr ⟨cv1046 hg, (List.forall_mem_cons.mpr ⟨cv1047 hg, (List.forall_mem_cons.mpr ⟨cv1048 hg, (List.forall_mem_cons.mpr ⟨cv1049 hg, (List.forall_mem_cons.mpr ⟨cv1050 hg, (List.forall_mem_cons.mpr ⟨cv1051 hg, (List.forall_mem_cons.mpr ⟨cv1052 hg, (List.forall_mem_cons.mpr ⟨cv1053 hg, (List.forall_mem_cons.mpr ⟨cv1054 hg, (List.forall_mem_cons.mpr ⟨cv935 hg, (List.forall_mem_cons.mpr ⟨cv936 hg, (List.forall_mem_cons.mpr ⟨cv1007 hg, (List.forall_mem_cons.mpr ⟨cv1008 hg, (fun _ h => absurd h List.not_mem_nil)⟩)⟩)⟩)⟩)⟩)⟩)⟩)⟩)⟩)⟩)⟩)⟩)⟩)⟩)⟩)⟩)⟩)⟩)⟩)⟩)
/-- LotBeliefsModel.peace -/
def ct1109 : sxCt := (308, 2, (2, [(1, .negSucc 2147483647, .ofNat 2147483647)], [], [(0, .inl 78), (1, .inr (false, (1, .ofNat 0)))], [], [], []), [(78, 1), (80, 0)], [
  (4, [(1, .negSucc 2147483647, .ofNat 2147483647), (2, .ofNat 0, .ofNat 4095), (3, .ofNat 0, .ofNat 1)], [], [], [.inr (false, (2, .ofNat 0))], [(78, (0, .ofNat 0), .inr (false, (3, .ofNat 0)))], [])], [], 0, 0)
def cu1109 : List sxCu := [
  (32, (4, [(1, .ofNat 0, .ofNat 51), (2, .ofNat 0, .ofNat 4095), (3, .ofNat 0, .ofNat 4096)], [(2, 3, .ofNat 0)], [(0, .inl 78), (1, .inr (false, (1, .ofNat 0))), (2, .inr (false, (2, .ofNat 0))), (3, .inr (false, (3, .ofNat 0)))], [], [(78, (0, .ofNat 0), .inr (false, (0, .ofNat 0)))], []), ((0, 3, .ofNat 4096), (0, 0, .ofNat 13), (0, 0, .ofNat 0)), 0, 0), 
  (66, (7, [(1, .ofNat 0, .ofNat 51), (2, .ofNat 0, .ofNat 4095), (3, .ofNat 0, .ofNat 4095), (4, .ofNat 0, .ofNat 1), (5, .ofNat 0, .ofNat 12), (6, .ofNat 0, .ofNat 12)], [(2, 3, .ofNat 0), (5, 6, .ofNat 0)], [(0, .inl 78), (1, .inr (false, (1, .ofNat 0))), (2, .inr (false, (2, .ofNat 0))), (3, .inr (false, (3, .ofNat 0))), (4, .inr (false, (4, .ofNat 0))), (5, .inr (false, (5, .ofNat 0)))], [], [(78, (0, .ofNat 0), .inr (false, (0, .ofNat 0))), (78, (0, .ofNat 12), .inl 82), (82, (0, .ofNat 1), .inr (false, (6, .ofNat 0)))], []), ((0, 3, .ofNat 4096), (0, 5, .ofNat 12), (0, 0, .ofNat 13)), 0, 0), 
  (81, (8, [(1, .ofNat 0, .ofNat 51), (2, .ofNat 0, .ofNat 4095), (3, .ofNat 0, .ofNat 4095), (4, .ofNat 0, .ofNat 1), (5, .ofNat 0, .ofNat 11), (6, .ofNat 0, .ofNat 12), (7, .ofNat 1, .ofNat 12)], [(2, 3, .ofNat 0), (5, 6, .ofNat 0), (5, 7, .negSucc 0)], [(0, .inl 78), (1, .inr (false, (1, .ofNat 0))), (2, .inr (false, (2, .ofNat 0))), (3, .inr (false, (3, .ofNat 0))), (4, .inr (false, (4, .ofNat 0))), (5, .inr (false, (5, .ofNat 0))), (6, .inr (false, (6, .ofNat 0)))], [], [(78, (0, .ofNat 0), .inr (false, (0, .ofNat 0))), (78, (0, .ofNat 12), .inl 82), (82, (0, .ofNat 1), .inr (false, (7, .ofNat 0)))], []), ((0, 3, .ofNat 4096), (0, 5, .ofNat 12), (0, 6, .ofNat 12)), 0, 0)]
set_option maxRecDepth 1000000 in
theorem cv1109 {gh : sxGh} (hg : sxGd sxKw gh) : sxCtV sxKw gh ct1109 := sxMeB_ok (cts := [ct88]) (cuts := cu1109) (sp := []) 287 (by decide +kernel) hg (by decide) (by decide) (List.forall_mem_cons.mpr ⟨cv88 hg, (fun _ h => absurd h List.not_mem_nil)⟩)
/-- LotBeliefs.Subsets.allFriends -/
def ct1137 : sxCt := (67, 0, (3, [(1, .ofNat 0, .ofNat 4095), (2, .ofNat 0, .ofNat 12)], [], [(0, .inl 45), (1, .inr (false, (1, .ofNat 0))), (2, .inr (false, (2, .ofNat 0)))], [], [], []), [], [
  (3, [(1, .ofNat 0, .ofNat 4095), (2, .ofNat 1, .ofNat 12)], [], [], [.inr (false, (0, .ofNat 0))], [], []), 
  (3, [(1, .ofNat 0, .ofNat 4095), (2, .ofNat 0, .ofNat 12)], [], [], [.inr (false, (0, .ofNat 1))], [], [])], [], 0, 0)
def cu1137 : List sxCu := [
  (2, (4, [(1, .ofNat 0, .ofNat 4095), (2, .ofNat 0, .ofNat 12), (3, .ofNat 0, .ofNat 12)], [], [(0, .inl 45), (1, .inr (false, (1, .ofNat 0))), (2, .inr (false, (2, .ofNat 0))), (3, .inr (false, (3, .ofNat 0)))], [], [], []), ((0, 3, .ofNat 12), (0, 0, .ofNat 0), (0, 0, .ofNat 0)), 0, 0)]
set_option maxRecDepth 1000000 in
theorem cv1137 {gh : sxGh} (hg : sxGd sxKw gh) : sxCtV sxKw gh ct1137 := sxMeB_ok (cts := []) (cuts := cu1137) (sp := []) 88 (by decide +kernel) hg (by decide) (by decide) (fun _ h => absurd h List.not_mem_nil)
/-- LotBeliefs.Subsets.peaceful -/
def ct1138 : sxCt := (66, 1, (2, [(1, .ofNat 0, .ofNat 51)], [], [(0, .inl 45), (1, .inl 11), (2, .inr (false, (1, .ofNat 0)))], [], [], []), [(47, 0)], [
  (3, [(1, .ofNat 0, .ofNat 51), (2, .ofNat 0, .ofNat 4095)], [], [], [.inr (false, (2, .ofNat 0))], [], [])], [], 0, 0)
def cu1138 : List sxCu := [
  (2, (3, [(1, .ofNat 0, .ofNat 51), (2, .ofNat 0, .ofNat 12)], [], [(0, .inl 45), (1, .inl 11), (2, .inr (false, (1, .ofNat 0))), (3, .inr (false, (2, .ofNat 0)))], [], [], []), ((0, 2, .ofNat 4108), (0, 0, .ofNat 13), (0, 0, .ofNat 0)), 0, 0), 
  (20, (5, [(1, .ofNat 0, .ofNat 51), (2, .ofNat 0, .ofNat 11), (3, .ofNat 0, .ofNat 12), (4, .ofNat 1, .ofNat 12)], [(2, 4, .negSucc 0)], [(0, .inl 45), (1, .inl 11), (2, .inr (false, (1, .ofNat 0))), (3, .inr (false, (2, .ofNat 0))), (4, .inr (false, (3, .ofNat 0)))], [], [(11, (0, .ofNat 2), .inr (false, (4, .ofNat 0))), (45, (0, .ofNat 3), .inl 47)], []), ((0, 2, .ofNat 4108), (0, 3, .ofNat 12), (0, 0, .ofNat 0)), 0, 0), 
  (73, (6, [(1, .ofNat 0, .ofNat 51), (2, .ofNat 0, .ofNat 4095), (3, .ofNat 0, .ofNat 63), (4, .ofNat 1, .ofNat 4096), (5, .ofNat 0, .ofNat 12)], [(2, 4, .negSucc 0)], [(0, .inl 45), (1, .inl 11), (2, .inr (false, (1, .ofNat 0))), (3, .inr (false, (2, .ofNat 0))), (4, .inr (false, (3, .ofNat 0))), (5, .inr (false, (4, .ofNat 0)))], [], [(11, (0, .ofNat 2), .inr (false, (5, .ofNat 0)))], []), ((0, 4, .ofNat 4096), (0, 0, .ofNat 0), (0, 0, .ofNat 0)), 0, 0)]
set_option maxRecDepth 1000000 in
theorem cv1138 {gh : sxGh} (hg : sxGd sxKw gh) : sxCtV sxKw gh ct1138 := sxMeB_ok (cts := [ct1137, ct84]) (cuts := cu1138) (sp := []) 178 (by decide +kernel) hg (by decide) (by decide) (List.forall_mem_cons.mpr ⟨cv1137 hg, (List.forall_mem_cons.mpr ⟨cv84 hg, (fun _ h => absurd h List.not_mem_nil)⟩)⟩)
/-- LotBeliefsModel.peace -/
def ct1139 : sxCt := (308, 2, (2, [(1, .ofNat 0, .ofNat 51)], [], [(0, .inl 78), (1, .inr (false, (1, .ofNat 0)))], [], [], []), [(78, 1)], [
  (3, [(1, .ofNat 0, .ofNat 51), (2, .ofNat 0, .ofNat 4095)], [], [], [.inr (false, (2, .ofNat 0))], [(78, (0, .ofNat 0), .inr (false, (0, .ofNat 0)))], [])], [], 0, 0)
def cu1139 : List sxCu := [
  (32, (4, [(1, .ofNat 0, .ofNat 51), (2, .ofNat 0, .ofNat 4095), (3, .ofNat 0, .ofNat 4096)], [(2, 3, .ofNat 0)], [(0, .inl 78), (1, .inr (false, (1, .ofNat 0))), (2, .inr (false, (2, .ofNat 0))), (3, .inr (false, (3, .ofNat 0)))], [], [(78, (0, .ofNat 0), .inr (false, (0, .ofNat 0)))], []), ((0, 3, .ofNat 4096), (0, 0, .ofNat 13), (0, 0, .ofNat 0)), 0, 0), 
  (66, (7, [(1, .ofNat 0, .ofNat 51), (2, .ofNat 0, .ofNat 4095), (3, .ofNat 0, .ofNat 4095), (4, .ofNat 0, .ofNat 1), (5, .ofNat 0, .ofNat 12), (6, .ofNat 0, .ofNat 12)], [(2, 3, .ofNat 0), (5, 6, .ofNat 0)], [(0, .inl 78), (1, .inr (false, (1, .ofNat 0))), (2, .inr (false, (2, .ofNat 0))), (3, .inr (false, (3, .ofNat 0))), (4, .inr (false, (4, .ofNat 0))), (5, .inr (false, (5, .ofNat 0)))], [], [(78, (0, .ofNat 0), .inr (false, (0, .ofNat 0))), (78, (0, .ofNat 12), .inl 82), (82, (0, .ofNat 1), .inr (false, (6, .ofNat 0)))], []), ((0, 3, .ofNat 4096), (0, 5, .ofNat 12), (0, 0, .ofNat 13)), 0, 0), 
  (81, (8, [(1, .ofNat 0, .ofNat 51), (2, .ofNat 0, .ofNat 4095), (3, .ofNat 0, .ofNat 4095), (4, .ofNat 0, .ofNat 1), (5, .ofNat 0, .ofNat 11), (6, .ofNat 0, .ofNat 12), (7, .ofNat 1, .ofNat 12)], [(2, 3, .ofNat 0), (5, 6, .ofNat 0), (5, 7, .negSucc 0)], [(0, .inl 78), (1, .inr (false, (1, .ofNat 0))), (2, .inr (false, (2, .ofNat 0))), (3, .inr (false, (3, .ofNat 0))), (4, .inr (false, (4, .ofNat 0))), (5, .inr (false, (5, .ofNat 0))), (6, .inr (false, (6, .ofNat 0)))], [], [(78, (0, .ofNat 0), .inr (false, (0, .ofNat 0))), (78, (0, .ofNat 12), .inl 82), (82, (0, .ofNat 1), .inr (false, (7, .ofNat 0)))], []), ((0, 3, .ofNat 4096), (0, 5, .ofNat 12), (0, 6, .ofNat 12)), 0, 0)]
set_option maxRecDepth 1000000 in
theorem cv1139 {gh : sxGh} (hg : sxGd sxKw gh) : sxCtV sxKw gh ct1139 := sxMeB_ok (cts := [ct88]) (cuts := cu1139) (sp := []) 219 (by decide +kernel) hg (by decide) (by decide) (List.forall_mem_cons.mpr ⟨cv88 hg, (fun _ h => absurd h List.not_mem_nil)⟩)
/-- LotBeliefs.Subsets.peaceful -/
def ct1140 : sxCt := (66, 1, (2, [(1, .ofNat 0, .ofNat 51)], [], [(0, .inl 45), (1, .inl 3), (2, .inr (false, (1, .ofNat 0)))], [], [], []), [(47, 0)], [
  (3, [(1, .ofNat 0, .ofNat 51), (2, .ofNat 0, .ofNat 4095)], [], [], [.inr (false, (2, .ofNat 0))], [], [])], [], 0, 0)
def cu1140 : List sxCu := [
  (2, (3, [(1, .ofNat 0, .ofNat 51), (2, .ofNat 0, .ofNat 12)], [], [(0, .inl 45), (1, .inl 3), (2, .inr (false, (1, .ofNat 0))), (3, .inr (false, (2, .ofNat 0)))], [], [], []), ((0, 2, .ofNat 4108), (0, 0, .ofNat 13), (0, 0, .ofNat 0)), 0, 0), 
  (20, (5, [(1, .ofNat 0, .ofNat 51), (2, .ofNat 0, .ofNat 11), (3, .ofNat 0, .ofNat 12), (4, .ofNat 1, .ofNat 12)], [(2, 4, .negSucc 0)], [(0, .inl 45), (1, .inl 3), (2, .inr (false, (1, .ofNat 0))), (3, .inr (false, (2, .ofNat 0))), (4, .inr (false, (3, .ofNat 0)))], [], [(3, (0, .ofNat 2), .inr (false, (4, .ofNat 0))), (45, (0, .ofNat 3), .inl 47)], []), ((0, 2, .ofNat 4108), (0, 3, .ofNat 12), (0, 0, .ofNat 0)), 0, 0), 
  (73, (6, [(1, .ofNat 0, .ofNat 51), (2, .ofNat 0, .ofNat 4095), (3, .ofNat 0, .ofNat 63), (4, .ofNat 1, .ofNat 4096), (5, .ofNat 0, .ofNat 12)], [(2, 4, .negSucc 0)], [(0, .inl 45), (1, .inl 3), (2, .inr (false, (1, .ofNat 0))), (3, .inr (false, (2, .ofNat 0))), (4, .inr (false, (3, .ofNat 0))), (5, .inr (false, (4, .ofNat 0)))], [], [(3, (0, .ofNat 2), .inr (false, (5, .ofNat 0)))], []), ((0, 4, .ofNat 4096), (0, 0, .ofNat 0), (0, 0, .ofNat 0)), 0, 0)]
set_option maxRecDepth 1000000 in
theorem cv1140 {gh : sxGh} (hg : sxGd sxKw gh) : sxCtV sxKw gh ct1140 := sxMeB_ok (cts := [ct1137, ct84]) (cuts := cu1140) (sp := []) 178 (by decide +kernel) hg (by decide) (by decide) (List.forall_mem_cons.mpr ⟨cv1137 hg, (List.forall_mem_cons.mpr ⟨cv84 hg, (fun _ h => absurd h List.not_mem_nil)⟩)⟩)
/-- LotBeliefs.quarrels -/
def ct1141 : sxCt := (156, 3, (2, [(1, .negSucc 2147483647, .ofNat 2147483647)], [], [(0, .inl 0), (1, .inr (false, (1, .ofNat 0)))], [], [], []), [(30, 0)], [
  (3, [(1, .ofNat 0, .ofNat 51), (2, .negSucc 2147483647, .ofNat 2147483647)], [], [], [.inr (false, (2, .ofNat 0))], [], [])], [
  (1, (3, [(1, .negSucc 2147483647, .ofNat 2147483647), (2, .negSucc 2147483647, .ofNat 2147483647)], [], [], [], [(30, (0, .ofNat 1), .inr (false, (2, .ofNat 0)))], []))], 1, 6)
def cu1141 : List sxCu := [
  (25, (5, [(1, .ofNat 0, .ofNat 51), (2, .negSucc 2147483647, .ofNat 2147483647), (3, .ofNat 0, .ofNat 11), (4, .ofNat 1, .ofNat 12)], [(3, 4, .negSucc 0)], [(0, .inl 0), (1, .inr (false, (1, .ofNat 0))), (2, .inr (false, (2, .ofNat 0))), (3, .inr (false, (3, .ofNat 0))), (4, .inr (false, (4, .ofNat 0)))], [], [], []), ((0, 3, .ofNat 12), (0, 4, .ofNat 12), (0, 0, .ofNat 0)), 0, 0), 
  (9, (4, [(1, .ofNat 0, .ofNat 51), (2, .negSucc 2147483647, .ofNat 2147483647), (3, .ofNat 0, .ofNat 12)], [], [(0, .inl 0), (1, .inr (false, (1, .ofNat 0))), (2, .inr (false, (2, .ofNat 0))), (3, .inr (false, (3, .ofNat 0)))], [], [], []), ((0, 3, .ofNat 12), (0, 0, .ofNat 12), (0, 0, .ofNat 0)), 0, 0)]
set_option maxRecDepth 1000000 in
theorem cv1141 {gh : sxGh} (hg : sxGd sxKw gh) : sxCtV sxKw gh ct1141 := sxMeB_ok (cts := []) (cuts := cu1141) (sp := []) 214 (by decide +kernel) hg (by decide) (by decide) (fun _ h => absurd h List.not_mem_nil)
/-- LotBeliefsModel.quarrels -/
def ct1142 : sxCt := (307, 2, (2, [(1, .negSucc 2147483647, .ofNat 2147483647)], [], [(0, .inl 78), (1, .inr (false, (1, .ofNat 0)))], [], [], []), [(78, 1), (80, 0)], [
  (4, [(1, .negSucc 2147483647, .ofNat 2147483647), (2, .negSucc 2147483647, .ofNat 2147483647), (3, .ofNat 0, .ofNat 1)], [], [], [.inr (false, (2, .ofNat 0))], [(78, (0, .ofNat 0), .inr (false, (3, .ofNat 0)))], [])], [], 0, 0)
def cu1142 : List sxCu := [
  (32, (4, [(1, .ofNat 0, .ofNat 51), (2, .negSucc 2147483647, .ofNat 2147483647), (3, .ofNat 0, .ofNat 12)], [], [(0, .inl 78), (1, .inr (false, (1, .ofNat 0))), (2, .inr (false, (2, .ofNat 0))), (3, .inr (false, (3, .ofNat 0)))], [], [(78, (0, .ofNat 0), .inr (false, (0, .ofNat 0)))], []), ((0, 3, .ofNat 12), (0, 0, .ofNat 12), (0, 0, .ofNat 0)), 0, 0), 
  (47, (6, [(1, .ofNat 0, .ofNat 51), (2, .negSucc 2147483647, .ofNat 2147483647), (3, .ofNat 0, .ofNat 11), (4, .ofNat 1, .ofNat 12), (5, .ofNat 1, .ofNat 12)], [(3, 4, .negSucc 0), (3, 5, .negSucc 0)], [(0, .inl 78), (1, .inr (false, (1, .ofNat 0))), (2, .inr (false, (2, .ofNat 0))), (3, .inr (false, (3, .ofNat 0))), (4, .inr (false, (4, .ofNat 0)))], [], [(78, (0, .ofNat 0), .inr (false, (0, .ofNat 0))), (78, (0, .ofNat 12), .inl 82), (82, (0, .ofNat 1), .inr (false, (5, .ofNat 0)))], []), ((0, 3, .ofNat 12), (0, 4, .ofNat 12), (0, 0, .ofNat 0)), 0, 0)]
set_option maxRecDepth 1000000 in
theorem cv1142 {gh : sxGh} (hg : sxGd sxKw gh) : sxCtV sxKw gh ct1142 := sxMeB_ok (cts := []) (cuts := cu1142) (sp := []) 236 (by decide +kernel) hg (by decide) (by decide) (fun _ h => absurd h List.not_mem_nil)
/-- LotBeliefsModel.quarrels -/
def ct1143 : sxCt := (307, 2, (2, [(1, .ofNat 0, .ofNat 51)], [], [(0, .inl 78), (1, .inr (false, (1, .ofNat 0)))], [], [], []), [(78, 1)], [
  (3, [(1, .ofNat 0, .ofNat 51), (2, .negSucc 2147483647, .ofNat 2147483647)], [], [], [.inr (false, (2, .ofNat 0))], [(78, (0, .ofNat 0), .inr (false, (0, .ofNat 0)))], [])], [], 0, 0)
def cu1143 : List sxCu := [
  (32, (4, [(1, .ofNat 0, .ofNat 51), (2, .negSucc 2147483647, .ofNat 2147483647), (3, .ofNat 0, .ofNat 12)], [], [(0, .inl 78), (1, .inr (false, (1, .ofNat 0))), (2, .inr (false, (2, .ofNat 0))), (3, .inr (false, (3, .ofNat 0)))], [], [(78, (0, .ofNat 0), .inr (false, (0, .ofNat 0)))], []), ((0, 3, .ofNat 12), (0, 0, .ofNat 12), (0, 0, .ofNat 0)), 0, 0), 
  (47, (6, [(1, .ofNat 0, .ofNat 51), (2, .negSucc 2147483647, .ofNat 2147483647), (3, .ofNat 0, .ofNat 11), (4, .ofNat 1, .ofNat 12), (5, .ofNat 1, .ofNat 12)], [(3, 4, .negSucc 0), (3, 5, .negSucc 0)], [(0, .inl 78), (1, .inr (false, (1, .ofNat 0))), (2, .inr (false, (2, .ofNat 0))), (3, .inr (false, (3, .ofNat 0))), (4, .inr (false, (4, .ofNat 0)))], [], [(78, (0, .ofNat 0), .inr (false, (0, .ofNat 0))), (78, (0, .ofNat 12), .inl 82), (82, (0, .ofNat 1), .inr (false, (5, .ofNat 0)))], []), ((0, 3, .ofNat 12), (0, 4, .ofNat 12), (0, 0, .ofNat 0)), 0, 0)]
set_option maxRecDepth 1000000 in
theorem cv1143 {gh : sxGh} (hg : sxGd sxKw gh) : sxCtV sxKw gh ct1143 := sxMeB_ok (cts := []) (cuts := cu1143) (sp := []) 168 (by decide +kernel) hg (by decide) (by decide) (fun _ h => absurd h List.not_mem_nil)
/-- LotBeliefs.eldest -/
def ct1144 : sxCt := (155, 6, (2, [(1, .negSucc 2147483647, .ofNat 2147483647)], [], [(0, .inl 0), (1, .inr (false, (1, .ofNat 0)))], [], [], []), [(21, 0), (22, 0), (25, 0), (26, 0), (30, 0), (32, 1), (32, 2), (32, 3), (32, 4), (32, 9), (32, 11), (32, 12), (33, 0), (34, 0), (35, 0), (36, 0), (37, 0)], [
  (7, [(1, .ofNat 0, .ofNat 51), (2, .negSucc 0, .ofNat 16), (3, .ofNat 0, .ofNat 4), (4, .ofNat 0, .ofNat 63), (5, .ofNat 0, .ofNat 4095), (6, .negSucc 2147483647, .ofNat 2147483647)], [], [], [.inr (false, (2, .ofNat 0))], [(32, (0, .ofNat 2), .inr (false, (3, .ofNat 0))), (32, (0, .ofNat 3), .inr (false, (4, .ofNat 0))), (32, (0, .ofNat 8), .inr (false, (5, .ofNat 0))), (32, (0, .ofNat 11), .inr (false, (6, .ofNat 0)))], [])], [
  (1, (3, [(1, .negSucc 2147483647, .ofNat 2147483647), (2, .negSucc 2147483647, .ofNat 2147483647)], [], [], [], [(30, (0, .ofNat 1), .inr (false, (2, .ofNat 0)))], []))], 1, 6)
def cu1144 : List sxCu := [
  (20, (8, [(1, .ofNat 0, .ofNat 51), (2, .ofNat 0, .ofNat 4095), (3, .ofNat 0, .ofNat 12), (4, .ofNat 0, .ofNat 4), (5, .ofNat 0, .ofNat 63), (6, .ofNat 0, .ofNat 4095), (7, .negSucc 2147483647, .ofNat 2147483647)], [], [(0, .inl 0), (1, .inr (false, (1, .ofNat 0))), (2, .inr (false, (2, .ofNat 0))), (3, .inr (false, (3, .ofNat 0)))], [], [(0, (0, .ofNat 7), .inl 27), (0, (0, .ofNat 12), .inl 32), (27, (0, .ofNat 0), .inl 28), (27, (0, .ofNat 1), .inr (false, (4, .ofNat 0))), (27, (0, .ofNat 2), .inr (false, (5, .ofNat 0))), (32, (0, .ofNat 2), .inr (false, (4, .ofNat 0))), (32, (0, .ofNat 3), .inr (false, (5, .ofNat 0))), (32, (0, .ofNat 8), .inr (false, (6, .ofNat 0))), (32, (0, .ofNat 11), .inr (false, (7, .ofNat 0)))], []), ((0, 3, .ofNat 12), (0, 0, .ofNat 0), (0, 0, .ofNat 0)), 0, 0)]
set_option maxRecDepth 1000000 in
theorem cv1144 {gh : sxGh} (hg : sxGd sxKw gh) : sxCtV sxKw gh ct1144 := sxMeB_ok (cts := [ct386, ct540]) (cuts := cu1144) (sp := []) 309 (by decide +kernel) hg (by decide) (by decide) (List.forall_mem_cons.mpr ⟨cv386 hg, (List.forall_mem_cons.mpr ⟨cv540 hg, (fun _ h => absurd h List.not_mem_nil)⟩)⟩)
/-- LotBeliefs.following -/
def ct1145 : sxCt := (154, 3, (3, [(1, .negSucc 2147483647, .ofNat 2147483647), (2, .negSucc 2147483647, .ofNat 2147483647)], [], [(0, .inl 0), (1, .inr (false, (1, .ofNat 0))), (2, .inr (false, (2, .ofNat 0)))], [], [], []), [(30, 0)], [
  (4, [(1, .ofNat 0, .ofNat 4095), (2, .ofNat 0, .ofNat 51), (3, .ofNat 0, .ofNat 4095)], [], [], [.inr (false, (3, .ofNat 0))], [], [])], [
  (1, (4, [(1, .negSucc 2147483647, .ofNat 2147483647), (2, .negSucc 2147483647, .ofNat 2147483647), (3, .negSucc 2147483647, .ofNat 2147483647)], [], [], [], [(30, (0, .ofNat 1), .inr (false, (3, .ofNat 0)))], []))], 1, 6)
def cu1145 : List sxCu := [
  (33, (6, [(1, .ofNat 0, .ofNat 4095), (2, .ofNat 0, .ofNat 51), (3, .negSucc 9223372036854775807, .ofNat 9223372036854775807), (4, .ofNat 0, .ofNat 4095), (5, .ofNat 0, .ofNat 12)], [], [(0, .inl 0), (1, .inr (false, (1, .ofNat 0))), (2, .inr (false, (2, .ofNat 0))), (3, .inr (true, (3, .ofNat 0))), (5, .inr (false, (4, .ofNat 0))), (6, .inr (false, (5, .ofNat 0)))], [], [], []), ((0, 5, .ofNat 12), (0, 0, .ofNat 0), (0, 0, .ofNat 0)), 0, 0)]
set_option maxRecDepth 1000000 in
theorem cv1145 {gh : sxGh} (hg : sxGd sxKw gh) : sxCtV sxKw gh ct1145 := sxMeB_ok (cts := [ct542, ct543]) (cuts := cu1145) (sp := []) 295 (by decide +kernel) hg (by decide) (by decide) (List.forall_mem_cons.mpr ⟨cv542 hg, (List.forall_mem_cons.mpr ⟨cv543 hg, (fun _ h => absurd h List.not_mem_nil)⟩)⟩)
/-- LotBeliefsModel.togetherIn -/
def ct1146 : sxCt := (274, 0, (3, [(1, .ofNat 0, .ofNat 4095), (2, .ofNat 0, .ofNat 51)], [], [(0, .inl 78), (1, .inr (false, (1, .ofNat 0))), (2, .inr (false, (2, .ofNat 0)))], [], [], []), [], [
  (4, [(1, .ofNat 0, .ofNat 4095), (2, .ofNat 0, .ofNat 51), (3, .negSucc 9223372036854775807, .ofNat 9223372036854775807)], [], [], [.inr (true, (3, .ofNat 0))], [], [])], [], 0, 0)
def cu1146 : List sxCu := [
  (10, (5, [(1, .ofNat 0, .ofNat 4095), (2, .ofNat 0, .ofNat 51), (3, .negSucc 9223372036854775807, .ofNat 9223372036854775807), (4, .ofNat 0, .ofNat 12)], [], [(0, .inl 78), (1, .inr (false, (1, .ofNat 0))), (2, .inr (false, (2, .ofNat 0))), (3, .inr (true, (3, .ofNat 0))), (5, .inr (false, (4, .ofNat 0)))], [], [(78, (0, .ofNat 19), .inl 89)], []), ((0, 4, .ofNat 12), (0, 0, .ofNat 0), (0, 0, .ofNat 0)), 0, 0)]
set_option maxRecDepth 1000000 in
theorem cv1146 {gh : sxGh} (hg : sxGd sxKw gh) : sxCtV sxKw gh ct1146 := sxMeB_ok (cts := []) (cuts := cu1146) (sp := []) 97 (by decide +kernel) hg (by decide) (by decide) (fun _ h => absurd h List.not_mem_nil)
/-- LotBeliefsModel.followingOf -/
def ct1147 : sxCt := (297, 0, (2, [(1, .negSucc 9223372036854775807, .ofNat 9223372036854775807)], [], [(0, .inl 78), (1, .inr (true, (1, .ofNat 0)))], [], [], []), [], [
  (3, [(1, .negSucc 9223372036854775807, .ofNat 9223372036854775807), (2, .ofNat 0, .ofNat 4095)], [], [], [.inr (false, (2, .ofNat 0))], [], [])], [], 0, 0)
def cu1147 : List sxCu := [
  (5, (4, [(1, .negSucc 9223372036854775807, .ofNat 9223372036854775807), (2, .ofNat 0, .ofNat 4095), (3, .ofNat 0, .ofNat 12)], [], [(0, .inl 78), (1, .inr (true, (1, .ofNat 0))), (3, .inr (false, (2, .ofNat 0))), (4, .inr (false, (3, .ofNat 0)))], [], [], []), ((0, 3, .ofNat 12), (0, 0, .ofNat 0), (0, 0, .ofNat 0)), 0, 0)]
set_option maxRecDepth 1000000 in
theorem cv1147 {gh : sxGh} (hg : sxGd sxKw gh) : sxCtV sxKw gh ct1147 := sxMeB_ok (cts := []) (cuts := cu1147) (sp := []) 104 (by decide +kernel) hg (by decide) (by decide) (fun _ h => absurd h List.not_mem_nil)
/-- LotBeliefs.killer -/
def ct1148 : sxCt := (152, 6, (2, [(1, .negSucc 2147483647, .ofNat 2147483647)], [], [(0, .inl 0), (1, .inr (false, (1, .ofNat 0)))], [], [], []), [(21, 0), (22, 0), (25, 0), (26, 0), (30, 0), (32, 1), (32, 2), (32, 3), (32, 4), (32, 9), (32, 11), (32, 12), (33, 0), (34, 0), (35, 0), (36, 0), (37, 0)], [
  (7, [(1, .ofNat 0, .ofNat 11), (2, .negSucc 0, .ofNat 11), (3, .ofNat 0, .ofNat 4), (4, .ofNat 0, .ofNat 63), (5, .ofNat 0, .ofNat 4095), (6, .negSucc 2147483647, .ofNat 2147483647)], [], [], [.inr (false, (2, .ofNat 0))], [(32, (0, .ofNat 2), .inr (false, (3, .ofNat 0))), (32, (0, .ofNat 3), .inr (false, (4, .ofNat 0))), (32, (0, .ofNat 8), .inr (false, (5, .ofNat 0))), (32, (0, .ofNat 11), .inr (false, (6, .ofNat 0)))], [])], [
  (0, (3, [(1, .negSucc 2147483647, .ofNat 2147483647), (2, .negSucc 2147483647, .ofNat 2147483647)], [], [], [], [(30, (0, .ofNat 0), .inr (false, (2, .ofNat 0)))], []))], 1, 6)
def cu1148 : List sxCu := [
  (36, (8, [(1, .ofNat 0, .ofNat 11), (2, .negSucc 9223372036854775807, .ofNat 9223372036854775807), (3, .ofNat 0, .ofNat 12), (4, .ofNat 0, .ofNat 4), (5, .ofNat 0, .ofNat 63), (6, .ofNat 0, .ofNat 4095), (7, .negSucc 2147483647, .ofNat 2147483647)], [], [(0, .inl 0), (1, .inr (false, (1, .ofNat 0))), (2, .inr (true, (2, .ofNat 0))), (4, .inr (false, (3, .ofNat 0)))], [], [(0, (0, .ofNat 7), .inl 27), (0, (0, .ofNat 12), .inl 32), (27, (0, .ofNat 0), .inl 28), (27, (0, .ofNat 1), .inr (false, (4, .ofNat 0))), (27, (0, .ofNat 2), .inr (false, (5, .ofNat 0))), (32, (0, .ofNat 2), .inr (false, (4, .ofNat 0))), (32, (0, .ofNat 3), .inr (false, (5, .ofNat 0))), (32, (0, .ofNat 7), .inl 36), (32, (0, .ofNat 8), .inr (false, (6, .ofNat 0))), (32, (0, .ofNat 11), .inr (false, (7, .ofNat 0)))], []), ((0, 3, .ofNat 12), (0, 0, .ofNat 0), (0, 0, .ofNat 0)), 0, 0)]
set_option maxRecDepth 1000000 in
theorem cv1148 {gh : sxGh} (hg : sxGd sxKw gh) : sxCtV sxKw gh ct1148 := sxMeB_ok (cts := [ct386]) (cuts := cu1148) (sp := []) 392 (by decide +kernel) hg (by decide) (by decide) (List.forall_mem_cons.mpr ⟨cv386 hg, (fun _ h => absurd h List.not_mem_nil)⟩)
/-- LotBeliefs.right -/
def ct1151 : sxCt := (150, 6, (2, [(1, .negSucc 2147483647, .ofNat 2147483647)], [], [(0, .inl 0), (1, .inr (false, (1, .ofNat 0)))], [], [], []), [(21, 0), (22, 0), (25, 0), (26, 0), (30, 0), (31, 0), (32, 1), (32, 2), (32, 3), (32, 4), (32, 9), (32, 11), (32, 12), (33, 0), (34, 0), (35, 0), (36, 0), (37, 0)], [
  (7, [(1, .ofNat 0, .ofNat 1), (2, .negSucc 0, .ofNat 51), (3, .ofNat 0, .ofNat 4), (4, .ofNat 0, .ofNat 63), (5, .ofNat 0, .ofNat 4095), (6, .negSucc 2147483647, .ofNat 2147483647)], [], [], [.inr (false, (2, .ofNat 0))], [(32, (0, .ofNat 2), .inr (false, (3, .ofNat 0))), (32, (0, .ofNat 3), .inr (false, (4, .ofNat 0))), (32, (0, .ofNat 8), .inr (false, (5, .ofNat 0))), (32, (0, .ofNat 11), .inr (false, (6, .ofNat 0)))], [])], [
  (1, (3, [(1, .negSucc 2147483647, .ofNat 2147483647), (2, .negSucc 2147483647, .ofNat 2147483647)], [], [], [], [(30, (0, .ofNat 1), .inr (false, (2, .ofNat 0)))], []))], 1, 6)
def cu1151 : List sxCu := [
  (17, (7, [(1, .ofNat 0, .ofNat 1), (2, .ofNat 0, .ofNat 52), (3, .ofNat 0, .ofNat 4), (4, .ofNat 0, .ofNat 63), (5, .ofNat 0, .ofNat 4095), (6, .negSucc 2147483647, .ofNat 2147483647)], [], [(0, .inl 0), (1, .inr (false, (1, .ofNat 0))), (2, .inr (false, (2, .ofNat 0)))], [], [(0, (0, .ofNat 12), .inl 32), (32, (0, .ofNat 2), .inr (false, (3, .ofNat 0))), (32, (0, .ofNat 3), .inr (false, (4, .ofNat 0))), (32, (0, .ofNat 8), .inr (false, (5, .ofNat 0))), (32, (0, .ofNat 11), .inr (false, (6, .ofNat 0)))], []), ((0, 2, .ofNat 52), (0, 0, .ofNat 0), (0, 0, .ofNat 0)), 0, 0)]
set_option maxRecDepth 1000000 in
theorem cv1151 {gh : sxGh} (hg : sxGd sxKw gh) : sxCtV sxKw gh ct1151 := sxMeB_ok (cts := [ct540, ct542, ct543, ct420]) (cuts := cu1151) (sp := []) 153 (by decide +kernel) hg (by decide) (by decide) (List.forall_mem_cons.mpr ⟨cv540 hg, (List.forall_mem_cons.mpr ⟨cv542 hg, (List.forall_mem_cons.mpr ⟨cv543 hg, (List.forall_mem_cons.mpr ⟨cv420 hg, (fun _ h => absurd h List.not_mem_nil)⟩)⟩)⟩)⟩)
/-- LotBeliefs.drawn -/
def ct1154 : sxCt := (146, 6, (4, [(1, .negSucc 2147483647, .ofNat 2147483647), (2, .negSucc 2147483647, .ofNat 2147483647), (3, .negSucc 2147483647, .ofNat 2147483647)], [], [(0, .inl 0), (1, .inr (false, (1, .ofNat 0))), (2, .inr (false, (2, .ofNat 0))), (3, .inr (false, (3, .ofNat 0)))], [], [], []), [(21, 0), (22, 0), (25, 0), (26, 0), (30, 0), (31, 0), (32, 1), (32, 2), (32, 3), (32, 4), (32, 9), (32, 11), (32, 12), (33, 0), (34, 0), (35, 0), (36, 0), (37, 0)], [
  (5, [(1, .ofNat 0, .ofNat 4), (2, .negSucc 2147483647, .ofNat 2147483647), (3, .ofNat 1, .ofNat 60), (4, .negSucc 2147483647, .ofNat 2147483647)], [], [], [.inr (false, (4, .ofNat 0))], [], [])], [
  (1, (5, [(1, .negSucc 2147483647, .ofNat 2147483647), (2, .negSucc 2147483647, .ofNat 2147483647), (3, .negSucc 2147483647, .ofNat 2147483647), (4, .negSucc 2147483647, .ofNat 2147483647)], [], [], [], [(30, (0, .ofNat 1), .inr (false, (4, .ofNat 0)))], []))], 1, 6)
def cu1154 : List sxCu := [
  (33, (8, [(1, .ofNat 0, .ofNat 4), (2, .negSucc 2147483647, .ofNat 2147483647), (3, .ofNat 1, .ofNat 60), (4, .ofNat 0, .ofNat 4095), (5, .negSucc 2147483647, .ofNat 2147483647), (6, .ofNat 0, .ofNat 63), (7, .ofNat 0, .ofNat 63)], [], [(0, .inl 0), (1, .inr (false, (1, .ofNat 0))), (2, .inr (false, (2, .ofNat 0))), (3, .inr (false, (3, .ofNat 0))), (4, .inr (false, (4, .ofNat 0))), (5, .inr (false, (5, .ofNat 0))), (6, .inr (false, (6, .ofNat 0)))], [], [(0, (0, .ofNat 7), .inl 27), (27, (0, .ofNat 2), .inr (false, (7, .ofNat 0)))], []), ((0, 6, .ofNat 63), (0, 0, .ofNat 0), (0, 0, .ofNat 0)), 0, 0)]
set_option maxRecDepth 1000000 in
theorem cv1154 {gh : sxGh} (hg : sxGd sxKw gh) : sxCtV sxKw gh ct1154 := sxMeB_ok (cts := [ct390, ct388, ct260, ct791, ct84]) (cuts := cu1154) (sp := []) 330 (by decide +kernel) hg (by decide) (by decide) (List.forall_mem_cons.mpr ⟨cv390 hg, (List.forall_mem_cons.mpr ⟨cv388 hg, (List.forall_mem_cons.mpr ⟨cv260 hg, (List.forall_mem_cons.mpr ⟨cv791 hg, (List.forall_mem_cons.mpr ⟨cv84 hg, (fun _ h => absurd h List.not_mem_nil)⟩)⟩)⟩)⟩)⟩)
/-- LotBeliefs.Survey.heldInAll -/
def ct1159 : sxCt := (77, 1, (2, [(1, .ofNat 0, .ofNat 4095)], [], [(0, .inl 74), (1, .inr (false, (1, .ofNat 0)))], [], [], []), [], [
  (3, [(1, .ofNat 0, .ofNat 4095), (2, .negSucc 2147483647, .ofNat 2147483647)], [], [], [.inr (false, (2, .ofNat 0))], [], [])], [], 0, 0)
def cu1159 : List sxCu := [
  (4, (4, [(1, .ofNat 0, .ofNat 4095), (2, .negSucc 2147483647, .ofNat 2147483647), (3, .ofNat 0, .ofNat 128)], [], [(0, .inl 74), (1, .inr (false, (1, .ofNat 0))), (2, .inr (false, (2, .ofNat 0))), (3, .inr (false, (3, .ofNat 0)))], [], [], []), ((0, 3, .ofNat 128), (0, 0, .ofNat 0), (0, 0, .ofNat 0)), 0, 0)]
set_option maxRecDepth 1000000 in
theorem cv1159 {gh : sxGh} (hg : sxGd sxKw gh) : sxCtV sxKw gh ct1159 := sxMeB_ok (cts := [ct74]) (cuts := cu1159) (sp := []) 86 (by decide +kernel) hg (by decide) (by decide) (List.forall_mem_cons.mpr ⟨cv74 hg, (fun _ h => absurd h List.not_mem_nil)⟩)
/-- LotBeliefs.Survey.heldInAll -/
def ct1160 : sxCt := (77, 1, (2, [(1, .ofNat 0, .ofNat 4095)], [], [(0, .inl 70), (1, .inr (false, (1, .ofNat 0)))], [], [], []), [], [
  (3, [(1, .ofNat 0, .ofNat 4095), (2, .negSucc 2147483647, .ofNat 2147483647)], [], [], [.inr (false, (2, .ofNat 0))], [], [])], [], 0, 0)
def cu1160 : List sxCu := [
  (4, (4, [(1, .ofNat 0, .ofNat 4095), (2, .negSucc 2147483647, .ofNat 2147483647), (3, .ofNat 0, .ofNat 128)], [], [(0, .inl 70), (1, .inr (false, (1, .ofNat 0))), (2, .inr (false, (2, .ofNat 0))), (3, .inr (false, (3, .ofNat 0)))], [], [], []), ((0, 3, .ofNat 128), (0, 0, .ofNat 0), (0, 0, .ofNat 0)), 0, 0)]
set_option maxRecDepth 1000000 in
theorem cv1160 {gh : sxGh} (hg : sxGd sxKw gh) : sxCtV sxKw gh ct1160 := sxMeB_ok (cts := [ct74]) (cuts := cu1160) (sp := []) 86 (by decide +kernel) hg (by decide) (by decide) (List.forall_mem_cons.mpr ⟨cv74 hg, (fun _ h => absurd h List.not_mem_nil)⟩)
/-- LotBeliefsModel.begins -/
def ct1161 : sxCt := (259, 0, (2, [(1, .ofNat 0, .ofNat 3)], [], [(0, .inl 78), (1, .inr (false, (1, .ofNat 0)))], [], [], []), [(78, 45), (78, 46), (78, 47), (78, 48), (78, 49), (562, 0), (563, 0), (564, 0), (565, 0), (566, 0)], [
  (2, [(1, .ofNat 0, .ofNat 3)], [], [], [], [(78, (0, .ofNat 44), .inr (false, (0, .ofNat 0))), (78, (0, .ofNat 45), .inr (false, (0, .ofNat 0))), (78, (0, .ofNat 46), .inr (false, (0, .ofNat 0))), (78, (0, .ofNat 47), .inr (false, (0, .ofNat 0))), (78, (0, .ofNat 48), .inr (false, (1, .ofNat 0)))], [])], [], 0, 0)
def cu1161 : List sxCu := [
  (27, (3, [(1, .ofNat 0, .ofNat 3), (2, .ofNat 0, .ofNat 17)], [], [(0, .inl 78), (1, .inr (false, (1, .ofNat 0))), (2, .inr (false, (2, .ofNat 0)))], [], [(78, (0, .ofNat 44), .inr (false, (0, .ofNat 0))), (78, (0, .ofNat 45), .inr (false, (0, .ofNat 0))), (78, (0, .ofNat 46), .inr (false, (0, .ofNat 0))), (78, (0, .ofNat 47), .inr (false, (0, .ofNat 0))), (78, (0, .ofNat 48), .inr (false, (1, .ofNat 0)))], []), ((0, 2, .ofNat 17), (0, 0, .ofNat 0), (0, 0, .ofNat 0)), 0, 0)]
set_option maxRecDepth 1000000 in
theorem cv1161 {gh : sxGh} (hg : sxGd sxKw gh) : sxCtV sxKw gh ct1161 := sxMeB_ok (cts := []) (cuts := cu1161) (sp := []) 108 (by decide +kernel) hg (by decide) (by decide) (fun _ h => absurd h List.not_mem_nil)
/-- LotBeliefs.Survey.heldInAll -/
def ct1215 : sxCt := (77, 1, (2, [(1, .ofNat 0, .ofNat 4095)], [], [(0, .inl 66), (1, .inr (false, (1, .ofNat 0)))], [], [], []), [], [
  (3, [(1, .ofNat 0, .ofNat 4095), (2, .negSucc 2147483647, .ofNat 2147483647)], [], [], [.inr (false, (2, .ofNat 0))], [], [])], [], 0, 0)
def cu1215 : List sxCu := [
  (4, (4, [(1, .ofNat 0, .ofNat 4095), (2, .negSucc 2147483647, .ofNat 2147483647), (3, .ofNat 0, .ofNat 128)], [], [(0, .inl 66), (1, .inr (false, (1, .ofNat 0))), (2, .inr (false, (2, .ofNat 0))), (3, .inr (false, (3, .ofNat 0)))], [], [], []), ((0, 3, .ofNat 128), (0, 0, .ofNat 0), (0, 0, .ofNat 0)), 0, 0)]
set_option maxRecDepth 1000000 in
theorem cv1215 {gh : sxGh} (hg : sxGd sxKw gh) : sxCtV sxKw gh ct1215 := sxMeB_ok (cts := [ct74]) (cuts := cu1215) (sp := []) 86 (by decide +kernel) hg (by decide) (by decide) (List.forall_mem_cons.mpr ⟨cv74 hg, (fun _ h => absurd h List.not_mem_nil)⟩)
/-- LotBeliefsModel.begins -/
def ct1216 : sxCt := (259, 0, (2, [(1, .ofNat 0, .ofNat 2)], [], [(0, .inl 78), (1, .inr (false, (1, .ofNat 0)))], [], [], []), [(78, 45), (78, 46), (78, 47), (78, 48), (78, 49), (562, 0), (563, 0), (564, 0), (565, 0), (566, 0)], [
  (2, [(1, .ofNat 0, .ofNat 2)], [], [], [], [(78, (0, .ofNat 44), .inr (false, (0, .ofNat 0))), (78, (0, .ofNat 45), .inr (false, (0, .ofNat 0))), (78, (0, .ofNat 46), .inr (false, (0, .ofNat 0))), (78, (0, .ofNat 47), .inr (false, (0, .ofNat 0))), (78, (0, .ofNat 48), .inr (false, (1, .ofNat 0)))], [])], [], 0, 0)
def cu1216 : List sxCu := [
  (27, (3, [(1, .ofNat 0, .ofNat 2), (2, .ofNat 0, .ofNat 17)], [], [(0, .inl 78), (1, .inr (false, (1, .ofNat 0))), (2, .inr (false, (2, .ofNat 0)))], [], [(78, (0, .ofNat 44), .inr (false, (0, .ofNat 0))), (78, (0, .ofNat 45), .inr (false, (0, .ofNat 0))), (78, (0, .ofNat 46), .inr (false, (0, .ofNat 0))), (78, (0, .ofNat 47), .inr (false, (0, .ofNat 0))), (78, (0, .ofNat 48), .inr (false, (1, .ofNat 0)))], []), ((0, 2, .ofNat 17), (0, 0, .ofNat 0), (0, 0, .ofNat 0)), 0, 0)]
set_option maxRecDepth 1000000 in
theorem cv1216 {gh : sxGh} (hg : sxGd sxKw gh) : sxCtV sxKw gh ct1216 := sxMeB_ok (cts := []) (cuts := cu1216) (sp := []) 108 (by decide +kernel) hg (by decide) (by decide) (fun _ h => absurd h List.not_mem_nil)
/-- LotBeliefs.Survey.heldInAll -/
def ct1270 : sxCt := (77, 1, (2, [(1, .ofNat 0, .ofNat 4095)], [], [(0, .inl 62), (1, .inr (false, (1, .ofNat 0)))], [], [], []), [], [
  (3, [(1, .ofNat 0, .ofNat 4095), (2, .negSucc 2147483647, .ofNat 2147483647)], [], [], [.inr (false, (2, .ofNat 0))], [], [])], [], 0, 0)
def cu1270 : List sxCu := [
  (4, (4, [(1, .ofNat 0, .ofNat 4095), (2, .negSucc 2147483647, .ofNat 2147483647), (3, .ofNat 0, .ofNat 128)], [], [(0, .inl 62), (1, .inr (false, (1, .ofNat 0))), (2, .inr (false, (2, .ofNat 0))), (3, .inr (false, (3, .ofNat 0)))], [], [], []), ((0, 3, .ofNat 128), (0, 0, .ofNat 0), (0, 0, .ofNat 0)), 0, 0)]
set_option maxRecDepth 1000000 in
theorem cv1270 {gh : sxGh} (hg : sxGd sxKw gh) : sxCtV sxKw gh ct1270 := sxMeB_ok (cts := [ct74]) (cuts := cu1270) (sp := []) 86 (by decide +kernel) hg (by decide) (by decide) (List.forall_mem_cons.mpr ⟨cv74 hg, (fun _ h => absurd h List.not_mem_nil)⟩)
/-- LotBeliefsModel.begins -/
def ct1271 : sxCt := (259, 0, (2, [(1, .ofNat 0, .ofNat 1)], [], [(0, .inl 78), (1, .inr (false, (1, .ofNat 0)))], [], [], []), [(78, 45), (78, 46), (78, 47), (78, 48), (78, 49), (562, 0), (563, 0), (564, 0), (565, 0), (566, 0)], [
  (2, [(1, .ofNat 0, .ofNat 1)], [], [], [], [(78, (0, .ofNat 44), .inr (false, (0, .ofNat 0))), (78, (0, .ofNat 45), .inr (false, (0, .ofNat 0))), (78, (0, .ofNat 46), .inr (false, (0, .ofNat 0))), (78, (0, .ofNat 47), .inr (false, (0, .ofNat 0))), (78, (0, .ofNat 48), .inr (false, (1, .ofNat 0)))], [])], [], 0, 0)
def cu1271 : List sxCu := [
  (27, (3, [(1, .ofNat 0, .ofNat 1), (2, .ofNat 0, .ofNat 17)], [], [(0, .inl 78), (1, .inr (false, (1, .ofNat 0))), (2, .inr (false, (2, .ofNat 0)))], [], [(78, (0, .ofNat 44), .inr (false, (0, .ofNat 0))), (78, (0, .ofNat 45), .inr (false, (0, .ofNat 0))), (78, (0, .ofNat 46), .inr (false, (0, .ofNat 0))), (78, (0, .ofNat 47), .inr (false, (0, .ofNat 0))), (78, (0, .ofNat 48), .inr (false, (1, .ofNat 0)))], []), ((0, 2, .ofNat 17), (0, 0, .ofNat 0), (0, 0, .ofNat 0)), 0, 0)]
set_option maxRecDepth 1000000 in
theorem cv1271 {gh : sxGh} (hg : sxGd sxKw gh) : sxCtV sxKw gh ct1271 := sxMeB_ok (cts := []) (cuts := cu1271) (sp := []) 108 (by decide +kernel) hg (by decide) (by decide) (fun _ h => absurd h List.not_mem_nil)
/-- LotBeliefs.Survey.heldInAll -/
def ct1325 : sxCt := (77, 1, (2, [(1, .ofNat 0, .ofNat 4095)], [], [(0, .inl 58), (1, .inr (false, (1, .ofNat 0)))], [], [], []), [], [
  (3, [(1, .ofNat 0, .ofNat 4095), (2, .negSucc 2147483647, .ofNat 2147483647)], [], [], [.inr (false, (2, .ofNat 0))], [], [])], [], 0, 0)
def cu1325 : List sxCu := [
  (4, (4, [(1, .ofNat 0, .ofNat 4095), (2, .negSucc 2147483647, .ofNat 2147483647), (3, .ofNat 0, .ofNat 128)], [], [(0, .inl 58), (1, .inr (false, (1, .ofNat 0))), (2, .inr (false, (2, .ofNat 0))), (3, .inr (false, (3, .ofNat 0)))], [], [], []), ((0, 3, .ofNat 128), (0, 0, .ofNat 0), (0, 0, .ofNat 0)), 0, 0)]
set_option maxRecDepth 1000000 in
theorem cv1325 {gh : sxGh} (hg : sxGd sxKw gh) : sxCtV sxKw gh ct1325 := sxMeB_ok (cts := [ct74]) (cuts := cu1325) (sp := []) 86 (by decide +kernel) hg (by decide) (by decide) (List.forall_mem_cons.mpr ⟨cv74 hg, (fun _ h => absurd h List.not_mem_nil)⟩)
/-- LotBeliefs.copyOrder -/
def ct1330 : sxCt := (183, 0, (2, [(1, .ofNat 0, .ofNat 5)], [], [(0, .inl 0), (1, .inr (false, (1, .ofNat 0)))], [], [], []), [(31, 0)], [
  (2, [(1, .ofNat 0, .ofNat 5)], [], [], [], [], [])], [], 0, 0)
def cu1330 : List sxCu := [
  (2, (3, [(1, .ofNat 0, .ofNat 5), (2, .ofNat 0, .ofNat 12)], [], [(0, .inl 0), (1, .inr (false, (1, .ofNat 0))), (2, .inr (false, (2, .ofNat 0)))], [], [], []), ((0, 2, .ofNat 12), (0, 0, .ofNat 0), (0, 0, .ofNat 0)), 0, 0)]
set_option maxRecDepth 1000000 in
theorem cv1330 {gh : sxGh} (hg : sxGd sxKw gh) : sxCtV sxKw gh ct1330 := sxMeB_ok (cts := []) (cuts := cu1330) (sp := []) 111 (by decide +kernel) hg (by decide) (by decide) (fun _ h => absurd h List.not_mem_nil)
/-- LotBeliefs.laySalts -/
def ct1331 : sxCt := (188, 1, (2, [(1, .ofNat 0, .ofNat 39)], [], [(0, .inl 0), (1, .inr (false, (1, .ofNat 0)))], [], [], []), [(31, 0)], [
  (3, [(1, .ofNat 0, .ofNat 39), (2, .ofNat 0, .ofNat 17)], [], [], [.inr (false, (2, .ofNat 0))], [], [])], [], 0, 0)
def cu1331 : List sxCu := [
  (4, (4, [(1, .ofNat 0, .ofNat 39), (2, .ofNat 0, .ofNat 5), (3, .ofNat 0, .ofNat 5)], [(2, 3, .ofNat 0)], [(0, .inl 0), (1, .inr (false, (1, .ofNat 0))), (2, .inr (false, (2, .ofNat 0))), (3, .inr (false, (3, .ofNat 0)))], [], [], []), ((0, 3, .ofNat 5), (0, 0, .ofNat 0), (0, 0, .ofNat 0)), 0, 0)]
set_option maxRecDepth 1000000 in
theorem cv1331 {gh : sxGh} (hg : sxGd sxKw gh) : sxCtV sxKw gh ct1331 := sxMeB_ok (cts := [ct1330]) (cuts := cu1331) (sp := []) 127 (by decide +kernel) hg (by decide) (by decide) (List.forall_mem_cons.mpr ⟨cv1330 hg, (fun _ h => absurd h List.not_mem_nil)⟩)
/-- LotBeliefs.Course.bury -/
def ct1356 : sxCt := (5, 1, (2, [(1, .ofNat 0, .ofNat 16)], [], [(0, .inl 32), (1, .inr (false, (1, .ofNat 0)))], [], [], []), [(32, 11), (32, 12), (34, 0), (36, 0), (37, 0)], [
  (3, [(1, .ofNat 0, .ofNat 16), (2, .negSucc 2147483647, .ofNat 2147483647)], [], [], [], [(32, (0, .ofNat 11), .inr (false, (2, .ofNat 0)))], [])], [], 0, 0)
def cu1356 : List sxCu := [
  (22, (5, [(1, .ofNat 0, .ofNat 16), (2, .ofNat 0, .ofNat 17), (3, .ofNat 0, .ofNat 17), (4, .negSucc 2147483647, .ofNat 2147483647)], [(2, 3, .ofNat 0)], [(0, .inl 32), (1, .inr (false, (1, .ofNat 0))), (2, .inr (false, (2, .ofNat 0))), (3, .inr (false, (3, .ofNat 0)))], [], [(32, (0, .ofNat 11), .inr (false, (4, .ofNat 0)))], []), ((0, 3, .ofNat 17), (0, 0, .ofNat 0), (0, 0, .ofNat 0)), 0, 0)]
set_option maxRecDepth 1000000 in
theorem cv1356 {gh : sxGh} (hg : sxGd sxKw gh) : sxCtV sxKw gh ct1356 := sxMeB_ok (cts := [ct264, ct263]) (cuts := cu1356) (sp := []) 185 (by decide +kernel) hg (by decide) (by decide) (List.forall_mem_cons.mpr ⟨cv264 hg, (List.forall_mem_cons.mpr ⟨cv263 hg, (fun _ h => absurd h List.not_mem_nil)⟩)⟩)
/-- LotBeliefs.Course.lives -/
def ct1357 : sxCt := (6, 0, (3, [(1, .ofNat 0, .ofNat 16), (2, .ofNat 0, .ofNat 16)], [], [(0, .inl 32), (1, .inr (false, (1, .ofNat 0))), (2, .inr (false, (2, .ofNat 0)))], [], [], []), [(33, 0), (34, 0), (35, 0), (36, 0)], [
  (3, [(1, .ofNat 0, .ofNat 16), (2, .ofNat 0, .ofNat 16)], [], [], [.inr (false, (0, .ofNat 0))], [], []), 
  (3, [(1, .ofNat 0, .ofNat 16), (2, .ofNat 0, .ofNat 16)], [], [], [.inr (false, (0, .ofNat 1))], [], [])], [], 0, 0)
def cu1357 : List sxCu := []
set_option maxRecDepth 1000000 in
theorem cv1357 {gh : sxGh} (hg : sxGd sxKw gh) : sxCtV sxKw gh ct1357 := sxMeB_ok (cts := []) (cuts := cu1357) (sp := []) 196 (by decide +kernel) hg (by decide) (by decide) (fun _ h => absurd h List.not_mem_nil)
/-- LotBeliefs.Tongue.tell -/
def ct1358 : sxCt := (98, 1, (7, [(1, .ofNat 0, .ofNat 16), (2, .ofNat 0, .ofNat 16), (3, .negSucc 2147483647, .ofNat 2147483647), (4, .ofNat 0, .ofNat 1), (5, .ofNat 0, .ofNat 16), (6, .ofNat 0, .ofNat 17)], [], [(0, .inl 23), (1, .inl 11), (2, .inr (false, (1, .ofNat 0))), (3, .inr (false, (2, .ofNat 0))), (4, .inr (false, (3, .ofNat 0))), (5, .inr (false, (4, .ofNat 0))), (6, .inr (false, (5, .ofNat 0))), (7, .inr (false, (6, .ofNat 0)))], [], [], []), [(25, 0)], [
  (11, [(1, .ofNat 0, .ofNat 16), (2, .ofNat 0, .ofNat 16), (3, .negSucc 2147483647, .ofNat 2147483647), (4, .ofNat 0, .ofNat 1), (5, .ofNat 0, .ofNat 16), (6, .ofNat 0, .ofNat 17), (7, .negSucc 2147483647, .ofNat 2147483647), (8, .negSucc 2147483647, .ofNat 2147483647), (9, .ofNat 0, .ofNat 127), (10, .ofNat 0, .ofNat 127)], [], [], [], [(25, (0, .ofNat 0), .inr (false, (3, .ofNat 0))), (25, (0, .ofNat 1), .inr (false, (4, .ofNat 0))), (25, (0, .ofNat 2), .inr (false, (7, .ofNat 0))), (25, (0, .ofNat 3), .inr (false, (8, .ofNat 0))), (25, (0, .ofNat 4), .inr (false, (1, .ofNat 0))), (25, (0, .ofNat 5), .inr (false, (2, .ofNat 0))), (25, (0, .ofNat 6), .inr (false, (5, .ofNat 0))), (25, (0, .ofNat 7), .inr (false, (6, .ofNat 0))), (25, (0, .ofNat 8), .inr (false, (9, .ofNat 0))), (25, (0, .ofNat 9), .inr (false, (10, .ofNat 0)))], [])], [], 0, 0)
def cu1358 : List sxCu := []
set_option maxRecDepth 1000000 in
theorem cv1358 {gh : sxGh} (hg : sxGd sxKw gh) : sxCtV sxKw gh ct1358 := sxMeB_ok (cts := [ct24]) (cuts := cu1358) (sp := []) 132 (by decide +kernel) hg (by decide) (by decide) (List.forall_mem_cons.mpr ⟨cv24 hg, (fun _ h => absurd h List.not_mem_nil)⟩)
/-- LotBeliefs.Tongue.tell -/
def ct1359 : sxCt := (98, 1, (7, [(1, .ofNat 0, .ofNat 16), (2, .ofNat 0, .ofNat 16), (3, .negSucc 2147483647, .ofNat 2147483647), (4, .ofNat 0, .ofNat 1), (5, .ofNat 0, .ofNat 16), (6, .ofNat 0, .ofNat 17)], [], [(0, .inl 19), (1, .inl 11), (2, .inr (false, (1, .ofNat 0))), (3, .inr (false, (2, .ofNat 0))), (4, .inr (false, (3, .ofNat 0))), (5, .inr (false, (4, .ofNat 0))), (6, .inr (false, (5, .ofNat 0))), (7, .inr (false, (6, .ofNat 0)))], [], [], []), [(21, 0)], [
  (11, [(1, .ofNat 0, .ofNat 16), (2, .ofNat 0, .ofNat 16), (3, .negSucc 2147483647, .ofNat 2147483647), (4, .ofNat 0, .ofNat 1), (5, .ofNat 0, .ofNat 16), (6, .ofNat 0, .ofNat 17), (7, .negSucc 2147483647, .ofNat 2147483647), (8, .negSucc 2147483647, .ofNat 2147483647), (9, .ofNat 0, .ofNat 127), (10, .ofNat 0, .ofNat 127)], [], [], [], [(21, (0, .ofNat 0), .inr (false, (3, .ofNat 0))), (21, (0, .ofNat 1), .inr (false, (4, .ofNat 0))), (21, (0, .ofNat 2), .inr (false, (7, .ofNat 0))), (21, (0, .ofNat 3), .inr (false, (8, .ofNat 0))), (21, (0, .ofNat 4), .inr (false, (1, .ofNat 0))), (21, (0, .ofNat 5), .inr (false, (2, .ofNat 0))), (21, (0, .ofNat 6), .inr (false, (5, .ofNat 0))), (21, (0, .ofNat 7), .inr (false, (6, .ofNat 0))), (21, (0, .ofNat 8), .inr (false, (9, .ofNat 0))), (21, (0, .ofNat 9), .inr (false, (10, .ofNat 0)))], [])], [], 0, 0)
def cu1359 : List sxCu := []
set_option maxRecDepth 1000000 in
theorem cv1359 {gh : sxGh} (hg : sxGd sxKw gh) : sxCtV sxKw gh ct1359 := sxMeB_ok (cts := [ct24]) (cuts := cu1359) (sp := []) 132 (by decide +kernel) hg (by decide) (by decide) (List.forall_mem_cons.mpr ⟨cv24 hg, (fun _ h => absurd h List.not_mem_nil)⟩)
/-- LotBeliefs.Tongue.tell -/
def ct1360 : sxCt := (98, 1, (7, [(1, .ofNat 0, .ofNat 16), (2, .ofNat 0, .ofNat 16), (3, .negSucc 2147483647, .ofNat 2147483647), (4, .negSucc 2147483647, .ofNat 2147483647), (5, .ofNat 0, .ofNat 16), (6, .ofNat 0, .ofNat 17)], [], [(0, .inl 23), (1, .inl 11), (2, .inr (false, (1, .ofNat 0))), (3, .inr (false, (2, .ofNat 0))), (4, .inr (false, (3, .ofNat 0))), (5, .inr (false, (4, .ofNat 0))), (6, .inr (false, (5, .ofNat 0))), (7, .inr (false, (6, .ofNat 0)))], [], [], []), [(25, 0)], [
  (11, [(1, .ofNat 0, .ofNat 16), (2, .ofNat 0, .ofNat 16), (3, .negSucc 2147483647, .ofNat 2147483647), (4, .negSucc 2147483647, .ofNat 2147483647), (5, .ofNat 0, .ofNat 16), (6, .ofNat 0, .ofNat 17), (7, .negSucc 2147483647, .ofNat 2147483647), (8, .negSucc 2147483647, .ofNat 2147483647), (9, .ofNat 0, .ofNat 127), (10, .ofNat 0, .ofNat 127)], [], [], [], [(25, (0, .ofNat 0), .inr (false, (3, .ofNat 0))), (25, (0, .ofNat 1), .inr (false, (4, .ofNat 0))), (25, (0, .ofNat 2), .inr (false, (7, .ofNat 0))), (25, (0, .ofNat 3), .inr (false, (8, .ofNat 0))), (25, (0, .ofNat 4), .inr (false, (1, .ofNat 0))), (25, (0, .ofNat 5), .inr (false, (2, .ofNat 0))), (25, (0, .ofNat 6), .inr (false, (5, .ofNat 0))), (25, (0, .ofNat 7), .inr (false, (6, .ofNat 0))), (25, (0, .ofNat 8), .inr (false, (9, .ofNat 0))), (25, (0, .ofNat 9), .inr (false, (10, .ofNat 0)))], [])], [], 0, 0)
def cu1360 : List sxCu := []
set_option maxRecDepth 1000000 in
theorem cv1360 {gh : sxGh} (hg : sxGd sxKw gh) : sxCtV sxKw gh ct1360 := sxMeB_ok (cts := [ct24]) (cuts := cu1360) (sp := []) 132 (by decide +kernel) hg (by decide) (by decide) (List.forall_mem_cons.mpr ⟨cv24 hg, (fun _ h => absurd h List.not_mem_nil)⟩)
/-- LotBeliefs.Tongue.tell -/
def ct1361 : sxCt := (98, 1, (7, [(1, .ofNat 0, .ofNat 16), (2, .ofNat 0, .ofNat 16), (3, .negSucc 2147483647, .ofNat 2147483647), (4, .negSucc 2147483647, .ofNat 2147483647), (5, .ofNat 0, .ofNat 16), (6, .ofNat 0, .ofNat 17)], [], [(0, .inl 19), (1, .inl 11), (2, .inr (false, (1, .ofNat 0))), (3, .inr (false, (2, .ofNat 0))), (4, .inr (false, (3, .ofNat 0))), (5, .inr (false, (4, .ofNat 0))), (6, .inr (false, (5, .ofNat 0))), (7, .inr (false, (6, .ofNat 0)))], [], [], []), [(21, 0)], [
  (11, [(1, .ofNat 0, .ofNat 16), (2, .ofNat 0, .ofNat 16), (3, .negSucc 2147483647, .ofNat 2147483647), (4, .negSucc 2147483647, .ofNat 2147483647), (5, .ofNat 0, .ofNat 16), (6, .ofNat 0, .ofNat 17), (7, .negSucc 2147483647, .ofNat 2147483647), (8, .negSucc 2147483647, .ofNat 2147483647), (9, .ofNat 0, .ofNat 127), (10, .ofNat 0, .ofNat 127)], [], [], [], [(21, (0, .ofNat 0), .inr (false, (3, .ofNat 0))), (21, (0, .ofNat 1), .inr (false, (4, .ofNat 0))), (21, (0, .ofNat 2), .inr (false, (7, .ofNat 0))), (21, (0, .ofNat 3), .inr (false, (8, .ofNat 0))), (21, (0, .ofNat 4), .inr (false, (1, .ofNat 0))), (21, (0, .ofNat 5), .inr (false, (2, .ofNat 0))), (21, (0, .ofNat 6), .inr (false, (5, .ofNat 0))), (21, (0, .ofNat 7), .inr (false, (6, .ofNat 0))), (21, (0, .ofNat 8), .inr (false, (9, .ofNat 0))), (21, (0, .ofNat 9), .inr (false, (10, .ofNat 0)))], [])], [], 0, 0)
def cu1361 : List sxCu := []
set_option maxRecDepth 1000000 in
theorem cv1361 {gh : sxGh} (hg : sxGd sxKw gh) : sxCtV sxKw gh ct1361 := sxMeB_ok (cts := [ct24]) (cuts := cu1361) (sp := []) 132 (by decide +kernel) hg (by decide) (by decide) (List.forall_mem_cons.mpr ⟨cv24 hg, (fun _ h => absurd h List.not_mem_nil)⟩)
/-- LotBeliefs.Tongue.tell -/
def ct1362 : sxCt := (98, 1, (7, [(1, .ofNat 0, .ofNat 16), (2, .ofNat 0, .ofNat 16), (3, .negSucc 2147483647, .ofNat 2147483647), (4, .ofNat 0, .ofNat 1), (5, .ofNat 0, .ofNat 16), (6, .ofNat 0, .ofNat 17)], [], [(0, .inl 23), (1, .inl 3), (2, .inr (false, (1, .ofNat 0))), (3, .inr (false, (2, .ofNat 0))), (4, .inr (false, (3, .ofNat 0))), (5, .inr (false, (4, .ofNat 0))), (6, .inr (false, (5, .ofNat 0))), (7, .inr (false, (6, .ofNat 0)))], [], [], []), [(25, 0)], [
  (11, [(1, .ofNat 0, .ofNat 16), (2, .ofNat 0, .ofNat 16), (3, .negSucc 2147483647, .ofNat 2147483647), (4, .ofNat 0, .ofNat 1), (5, .ofNat 0, .ofNat 16), (6, .ofNat 0, .ofNat 17), (7, .negSucc 2147483647, .ofNat 2147483647), (8, .negSucc 2147483647, .ofNat 2147483647), (9, .ofNat 0, .ofNat 127), (10, .ofNat 0, .ofNat 127)], [], [], [], [(25, (0, .ofNat 0), .inr (false, (3, .ofNat 0))), (25, (0, .ofNat 1), .inr (false, (4, .ofNat 0))), (25, (0, .ofNat 2), .inr (false, (7, .ofNat 0))), (25, (0, .ofNat 3), .inr (false, (8, .ofNat 0))), (25, (0, .ofNat 4), .inr (false, (1, .ofNat 0))), (25, (0, .ofNat 5), .inr (false, (2, .ofNat 0))), (25, (0, .ofNat 6), .inr (false, (5, .ofNat 0))), (25, (0, .ofNat 7), .inr (false, (6, .ofNat 0))), (25, (0, .ofNat 8), .inr (false, (9, .ofNat 0))), (25, (0, .ofNat 9), .inr (false, (10, .ofNat 0)))], [])], [], 0, 0)
def cu1362 : List sxCu := []
set_option maxRecDepth 1000000 in
theorem cv1362 {gh : sxGh} (hg : sxGd sxKw gh) : sxCtV sxKw gh ct1362 := sxMeB_ok (cts := [ct24]) (cuts := cu1362) (sp := []) 132 (by decide +kernel) hg (by decide) (by decide) (List.forall_mem_cons.mpr ⟨cv24 hg, (fun _ h => absurd h List.not_mem_nil)⟩)
/-- LotBeliefs.Tongue.tell -/
def ct1363 : sxCt := (98, 1, (7, [(1, .ofNat 0, .ofNat 16), (2, .ofNat 0, .ofNat 16), (3, .negSucc 2147483647, .ofNat 2147483647), (4, .ofNat 0, .ofNat 1), (5, .ofNat 0, .ofNat 16), (6, .ofNat 0, .ofNat 17)], [], [(0, .inl 19), (1, .inl 3), (2, .inr (false, (1, .ofNat 0))), (3, .inr (false, (2, .ofNat 0))), (4, .inr (false, (3, .ofNat 0))), (5, .inr (false, (4, .ofNat 0))), (6, .inr (false, (5, .ofNat 0))), (7, .inr (false, (6, .ofNat 0)))], [], [], []), [(21, 0)], [
  (11, [(1, .ofNat 0, .ofNat 16), (2, .ofNat 0, .ofNat 16), (3, .negSucc 2147483647, .ofNat 2147483647), (4, .ofNat 0, .ofNat 1), (5, .ofNat 0, .ofNat 16), (6, .ofNat 0, .ofNat 17), (7, .negSucc 2147483647, .ofNat 2147483647), (8, .negSucc 2147483647, .ofNat 2147483647), (9, .ofNat 0, .ofNat 127), (10, .ofNat 0, .ofNat 127)], [], [], [], [(21, (0, .ofNat 0), .inr (false, (3, .ofNat 0))), (21, (0, .ofNat 1), .inr (false, (4, .ofNat 0))), (21, (0, .ofNat 2), .inr (false, (7, .ofNat 0))), (21, (0, .ofNat 3), .inr (false, (8, .ofNat 0))), (21, (0, .ofNat 4), .inr (false, (1, .ofNat 0))), (21, (0, .ofNat 5), .inr (false, (2, .ofNat 0))), (21, (0, .ofNat 6), .inr (false, (5, .ofNat 0))), (21, (0, .ofNat 7), .inr (false, (6, .ofNat 0))), (21, (0, .ofNat 8), .inr (false, (9, .ofNat 0))), (21, (0, .ofNat 9), .inr (false, (10, .ofNat 0)))], [])], [], 0, 0)
def cu1363 : List sxCu := []
set_option maxRecDepth 1000000 in
theorem cv1363 {gh : sxGh} (hg : sxGd sxKw gh) : sxCtV sxKw gh ct1363 := sxMeB_ok (cts := [ct24]) (cuts := cu1363) (sp := []) 132 (by decide +kernel) hg (by decide) (by decide) (List.forall_mem_cons.mpr ⟨cv24 hg, (fun _ h => absurd h List.not_mem_nil)⟩)
/-- LotBeliefs.Tongue.tell -/
def ct1364 : sxCt := (98, 1, (7, [(1, .ofNat 0, .ofNat 16), (2, .ofNat 0, .ofNat 16), (3, .negSucc 2147483647, .ofNat 2147483647), (4, .negSucc 2147483647, .ofNat 2147483647), (5, .ofNat 0, .ofNat 16), (6, .ofNat 0, .ofNat 17)], [], [(0, .inl 23), (1, .inl 3), (2, .inr (false, (1, .ofNat 0))), (3, .inr (false, (2, .ofNat 0))), (4, .inr (false, (3, .ofNat 0))), (5, .inr (false, (4, .ofNat 0))), (6, .inr (false, (5, .ofNat 0))), (7, .inr (false, (6, .ofNat 0)))], [], [], []), [(25, 0)], [
  (11, [(1, .ofNat 0, .ofNat 16), (2, .ofNat 0, .ofNat 16), (3, .negSucc 2147483647, .ofNat 2147483647), (4, .negSucc 2147483647, .ofNat 2147483647), (5, .ofNat 0, .ofNat 16), (6, .ofNat 0, .ofNat 17), (7, .negSucc 2147483647, .ofNat 2147483647), (8, .negSucc 2147483647, .ofNat 2147483647), (9, .ofNat 0, .ofNat 127), (10, .ofNat 0, .ofNat 127)], [], [], [], [(25, (0, .ofNat 0), .inr (false, (3, .ofNat 0))), (25, (0, .ofNat 1), .inr (false, (4, .ofNat 0))), (25, (0, .ofNat 2), .inr (false, (7, .ofNat 0))), (25, (0, .ofNat 3), .inr (false, (8, .ofNat 0))), (25, (0, .ofNat 4), .inr (false, (1, .ofNat 0))), (25, (0, .ofNat 5), .inr (false, (2, .ofNat 0))), (25, (0, .ofNat 6), .inr (false, (5, .ofNat 0))), (25, (0, .ofNat 7), .inr (false, (6, .ofNat 0))), (25, (0, .ofNat 8), .inr (false, (9, .ofNat 0))), (25, (0, .ofNat 9), .inr (false, (10, .ofNat 0)))], [])], [], 0, 0)
def cu1364 : List sxCu := []
set_option maxRecDepth 1000000 in
theorem cv1364 {gh : sxGh} (hg : sxGd sxKw gh) : sxCtV sxKw gh ct1364 := sxMeB_ok (cts := [ct24]) (cuts := cu1364) (sp := []) 132 (by decide +kernel) hg (by decide) (by decide) (List.forall_mem_cons.mpr ⟨cv24 hg, (fun _ h => absurd h List.not_mem_nil)⟩)
/-- LotBeliefs.Tongue.tell -/
def ct1365 : sxCt := (98, 1, (7, [(1, .ofNat 0, .ofNat 16), (2, .ofNat 0, .ofNat 16), (3, .negSucc 2147483647, .ofNat 2147483647), (4, .negSucc 2147483647, .ofNat 2147483647), (5, .ofNat 0, .ofNat 16), (6, .ofNat 0, .ofNat 17)], [], [(0, .inl 19), (1, .inl 3), (2, .inr (false, (1, .ofNat 0))), (3, .inr (false, (2, .ofNat 0))), (4, .inr (false, (3, .ofNat 0))), (5, .inr (false, (4, .ofNat 0))), (6, .inr (false, (5, .ofNat 0))), (7, .inr (false, (6, .ofNat 0)))], [], [], []), [(21, 0)], [
  (11, [(1, .ofNat 0, .ofNat 16), (2, .ofNat 0, .ofNat 16), (3, .negSucc 2147483647, .ofNat 2147483647), (4, .negSucc 2147483647, .ofNat 2147483647), (5, .ofNat 0, .ofNat 16), (6, .ofNat 0, .ofNat 17), (7, .negSucc 2147483647, .ofNat 2147483647), (8, .negSucc 2147483647, .ofNat 2147483647), (9, .ofNat 0, .ofNat 127), (10, .ofNat 0, .ofNat 127)], [], [], [], [(21, (0, .ofNat 0), .inr (false, (3, .ofNat 0))), (21, (0, .ofNat 1), .inr (false, (4, .ofNat 0))), (21, (0, .ofNat 2), .inr (false, (7, .ofNat 0))), (21, (0, .ofNat 3), .inr (false, (8, .ofNat 0))), (21, (0, .ofNat 4), .inr (false, (1, .ofNat 0))), (21, (0, .ofNat 5), .inr (false, (2, .ofNat 0))), (21, (0, .ofNat 6), .inr (false, (5, .ofNat 0))), (21, (0, .ofNat 7), .inr (false, (6, .ofNat 0))), (21, (0, .ofNat 8), .inr (false, (9, .ofNat 0))), (21, (0, .ofNat 9), .inr (false, (10, .ofNat 0)))], [])], [], 0, 0)
def cu1365 : List sxCu := []
set_option maxRecDepth 1000000 in
theorem cv1365 {gh : sxGh} (hg : sxGd sxKw gh) : sxCtV sxKw gh ct1365 := sxMeB_ok (cts := [ct24]) (cuts := cu1365) (sp := []) 132 (by decide +kernel) hg (by decide) (by decide) (List.forall_mem_cons.mpr ⟨cv24 hg, (fun _ h => absurd h List.not_mem_nil)⟩)
/-- LotBeliefs.Course.whoFalls -/
def ct1366 : sxCt := (9, 2, (4, [(1, .ofNat 0, .ofNat 16), (2, .ofNat 0, .ofNat 16), (3, .ofNat 0, .ofNat 16)], [], [(0, .inl 32), (1, .inr (false, (1, .ofNat 0))), (2, .inr (false, (2, .ofNat 0))), (3, .inr (false, (3, .ofNat 0)))], [], [], []), [(21, 0), (22, 0), (25, 0), (26, 0)], [
  (5, [(1, .ofNat 0, .ofNat 16), (2, .ofNat 0, .ofNat 16), (3, .ofNat 0, .ofNat 16), (4, .ofNat 0, .ofNat 2147480647)], [], [], [.inr (false, (4, .ofNat 0))], [], [])], [], 0, 0)
def cu1366 : List sxCu := []
set_option maxRecDepth 1000000 in
theorem cv1366 {gh : sxGh} (hg : sxGd sxKw gh) : sxCtV sxKw gh ct1366 := sxMeB_ok (cts := [ct1358, ct1359, ct1362, ct1363, ct1360, ct1361, ct1364, ct1365, ct28, ct31]) (cuts := cu1366) (sp := []) 300 (by decide +kernel) hg (by decide) (by decide) (List.forall_mem_cons.mpr ⟨cv1358 hg, (List.forall_mem_cons.mpr ⟨cv1359 hg, (List.forall_mem_cons.mpr ⟨cv1362 hg, (List.forall_mem_cons.mpr ⟨cv1363 hg, (List.forall_mem_cons.mpr ⟨cv1360 hg, (List.forall_mem_cons.mpr ⟨cv1361 hg, (List.forall_mem_cons.mpr ⟨cv1364 hg, (List.forall_mem_cons.mpr ⟨cv1365 hg, (List.forall_mem_cons.mpr ⟨cv28 hg, (List.forall_mem_cons.mpr ⟨cv31 hg, (fun _ h => absurd h List.not_mem_nil)⟩)⟩)⟩)⟩)⟩)⟩)⟩)⟩)⟩)⟩)
/-- LotBeliefs.Course.stands -/
def ct1367 : sxCt := (7, 3, (4, [(1, .ofNat 0, .ofNat 16), (2, .ofNat 0, .ofNat 16), (3, .ofNat 0, .ofNat 17)], [], [(0, .inl 32), (1, .inr (false, (1, .ofNat 0))), (2, .inr (false, (2, .ofNat 0)))], [], [(32, (0, .ofNat 10), .inr (false, (3, .ofNat 0)))], []), [(21, 0), (22, 0), (25, 0), (26, 0), (32, 11), (32, 12), (34, 0), (35, 0), (36, 0), (37, 0)], [
  (5, [(1, .ofNat 0, .ofNat 16), (2, .ofNat 0, .ofNat 16), (3, .ofNat 0, .ofNat 17), (4, .negSucc 2147483647, .ofNat 2147483647)], [], [], [.inr (false, (0, .ofNat 1))], [(32, (0, .ofNat 10), .inr (false, (3, .ofNat 0))), (32, (0, .ofNat 11), .inr (false, (4, .ofNat 0)))], []), 
  (7, [(1, .ofNat 0, .ofNat 16), (2, .ofNat 0, .ofNat 16), (3, .ofNat 1, .ofNat 17), (4, .ofNat 0, .ofNat 1), (5, .ofNat 0, .ofNat 17), (6, .negSucc 2147483647, .ofNat 2147483647)], [(5, 3, .ofNat 0)], [], [.inr (false, (4, .ofNat 0))], [(32, (0, .ofNat 10), .inr (false, (5, .ofNat 0))), (32, (0, .ofNat 11), .inr (false, (6, .ofNat 0)))], [])], [], 0, 0)
def cu1367 : List sxCu := [
  (38, (6, [(1, .ofNat 0, .ofNat 16), (2, .ofNat 0, .ofNat 16), (3, .ofNat 0, .ofNat 17), (4, .negSucc 2147483647, .ofNat 2147483647), (5, .negSucc 2147483647, .ofNat 2147483647)], [], [(0, .inl 32), (1, .inr (false, (1, .ofNat 0))), (2, .inr (false, (2, .ofNat 0))), (3, .inr (false, (4, .ofNat 0))), (4, .inr (false, (3, .ofNat 0))), (5, .inr (false, (0, .ofNat 0))), (6, .inr (false, (0, .ofNat 1))), (7, .inr (false, (0, .ofNat 0)))], [], [(32, (0, .ofNat 10), .inr (false, (3, .ofNat 0))), (32, (0, .ofNat 11), .inr (false, (5, .ofNat 0)))], []), ((0, 0, .ofNat 17), (0, 0, .ofNat 0), (0, 0, .ofNat 0)), 0, 0), 
  (38, (5, [(1, .ofNat 0, .ofNat 16), (2, .ofNat 0, .ofNat 16), (3, .ofNat 0, .ofNat 17), (4, .negSucc 2147483647, .ofNat 2147483647)], [], [(0, .inl 32), (1, .inr (false, (1, .ofNat 0))), (2, .inr (false, (2, .ofNat 0))), (3, .inr (false, (0, .ofNat 0))), (4, .inr (false, (0, .ofNat 0))), (5, .inr (false, (0, .ofNat 0))), (6, .inr (false, (0, .ofNat 1))), (7, .inr (false, (0, .ofNat 0)))], [], [(32, (0, .ofNat 10), .inr (false, (3, .ofNat 0))), (32, (0, .ofNat 11), .inr (false, (4, .ofNat 0)))], []), ((0, 0, .ofNat 17), (0, 0, .ofNat 0), (0, 0, .ofNat 0)), 0, 0), 
  (38, (11, [(1, .ofNat 0, .ofNat 16), (2, .ofNat 0, .ofNat 16), (3, .ofNat 1, .ofNat 17), (4, .negSucc 2147483647, .ofNat 2147483647), (5, .ofNat 0, .ofNat 1), (6, .ofNat 0, .ofNat 1), (7, .ofNat 0, .ofNat 16), (8, .negSucc 0, .ofNat 2147480647), (9, .ofNat 0, .ofNat 17), (10, .negSucc 2147483647, .ofNat 2147483647)], [(3, 9, .ofNat 1), (9, 3, .ofNat 0)], [(0, .inl 32), (1, .inr (false, (1, .ofNat 0))), (2, .inr (false, (2, .ofNat 0))), (3, .inr (false, (4, .ofNat 0))), (4, .inr (false, (3, .ofNat 0))), (5, .inr (false, (5, .ofNat 0))), (6, .inr (false, (6, .ofNat 0))), (7, .inr (false, (0, .ofNat 1))), (8, .inr (false, (7, .ofNat 0))), (9, .inr (false, (8, .ofNat 0)))], [], [(32, (0, .ofNat 9), .inl 37), (32, (0, .ofNat 10), .inr (false, (9, .ofNat 0))), (32, (0, .ofNat 11), .inr (false, (10, .ofNat 0))), (37, (0, .ofNat 0), .inr (false, (7, .ofNat 0)))], []), ((0, 0, .ofNat 16), (0, 0, .ofNat 0), (0, 0, .ofNat 0)), 0, 0), 
  (38, (11, [(1, .ofNat 0, .ofNat 16), (2, .ofNat 0, .ofNat 16), (3, .ofNat 10, .ofNat 17), (4, .negSucc 2147483647, .ofNat 2147483647), (5, .ofNat 0, .ofNat 10), (6, .ofNat 0, .ofNat 1), (7, .ofNat 0, .ofNat 16), (8, .negSucc 0, .ofNat 2147480647), (9, .ofNat 0, .ofNat 17), (10, .negSucc 2147483647, .ofNat 2147483647)], [(3, 9, .ofNat 10), (9, 3, .ofNat 0)], [(0, .inl 32), (1, .inr (false, (1, .ofNat 0))), (2, .inr (false, (2, .ofNat 0))), (3, .inr (false, (4, .ofNat 0))), (4, .inr (false, (3, .ofNat 0))), (5, .inr (false, (5, .ofNat 0))), (6, .inr (false, (6, .ofNat 0))), (7, .inr (false, (0, .ofNat 10))), (8, .inr (false, (7, .ofNat 0))), (9, .inr (false, (8, .ofNat 0)))], [], [(32, (0, .ofNat 9), .inl 37), (32, (0, .ofNat 10), .inr (false, (9, .ofNat 0))), (32, (0, .ofNat 11), .inr (false, (10, .ofNat 0)))], []), ((0, 0, .ofNat 7), (0, 0, .ofNat 0), (0, 0, .ofNat 0)), 0, 0), 
  (38, (11, [(1, .ofNat 0, .ofNat 16), (2, .ofNat 0, .ofNat 16), (3, .ofNat 11, .ofNat 17), (4, .negSucc 2147483647, .ofNat 2147483647), (5, .ofNat 0, .ofNat 11), (6, .ofNat 0, .ofNat 1), (7, .ofNat 0, .ofNat 16), (8, .negSucc 0, .ofNat 2147480647), (9, .ofNat 0, .ofNat 17), (10, .negSucc 2147483647, .ofNat 2147483647)], [(3, 9, .ofNat 11), (9, 3, .ofNat 0)], [(0, .inl 32), (1, .inr (false, (1, .ofNat 0))), (2, .inr (false, (2, .ofNat 0))), (3, .inr (false, (4, .ofNat 0))), (4, .inr (false, (3, .ofNat 0))), (5, .inr (false, (5, .ofNat 0))), (6, .inr (false, (6, .ofNat 0))), (7, .inr (false, (0, .ofNat 11))), (8, .inr (false, (7, .ofNat 0))), (9, .inr (false, (8, .ofNat 0)))], [], [(32, (0, .ofNat 9), .inl 37), (32, (0, .ofNat 10), .inr (false, (9, .ofNat 0))), (32, (0, .ofNat 11), .inr (false, (10, .ofNat 0)))], []), ((0, 0, .ofNat 6), (0, 0, .ofNat 0), (0, 0, .ofNat 0)), 0, 0), 
  (38, (11, [(1, .ofNat 0, .ofNat 16), (2, .ofNat 0, .ofNat 16), (3, .ofNat 12, .ofNat 17), (4, .negSucc 2147483647, .ofNat 2147483647), (5, .ofNat 0, .ofNat 12), (6, .ofNat 0, .ofNat 1), (7, .ofNat 0, .ofNat 16), (8, .negSucc 0, .ofNat 2147480647), (9, .ofNat 0, .ofNat 17), (10, .negSucc 2147483647, .ofNat 2147483647)], [(3, 9, .ofNat 12), (9, 3, .ofNat 0)], [(0, .inl 32), (1, .inr (false, (1, .ofNat 0))), (2, .inr (false, (2, .ofNat 0))), (3, .inr (false, (4, .ofNat 0))), (4, .inr (false, (3, .ofNat 0))), (5, .inr (false, (5, .ofNat 0))), (6, .inr (false, (6, .ofNat 0))), (7, .inr (false, (0, .ofNat 12))), (8, .inr (false, (7, .ofNat 0))), (9, .inr (false, (8, .ofNat 0)))], [], [(32, (0, .ofNat 9), .inl 37), (32, (0, .ofNat 10), .inr (false, (9, .ofNat 0))), (32, (0, .ofNat 11), .inr (false, (10, .ofNat 0)))], []), ((0, 0, .ofNat 5), (0, 0, .ofNat 0), (0, 0, .ofNat 0)), 0, 0), 
  (38, (11, [(1, .ofNat 0, .ofNat 16), (2, .ofNat 0, .ofNat 16), (3, .ofNat 13, .ofNat 17), (4, .negSucc 2147483647, .ofNat 2147483647), (5, .ofNat 0, .ofNat 13), (6, .ofNat 0, .ofNat 1), (7, .ofNat 0, .ofNat 16), (8, .negSucc 0, .ofNat 2147480647), (9, .ofNat 0, .ofNat 17), (10, .negSucc 2147483647, .ofNat 2147483647)], [(3, 9, .ofNat 13), (9, 3, .ofNat 0)], [(0, .inl 32), (1, .inr (false, (1, .ofNat 0))), (2, .inr (false, (2, .ofNat 0))), (3, .inr (false, (4, .ofNat 0))), (4, .inr (false, (3, .ofNat 0))), (5, .inr (false, (5, .ofNat 0))), (6, .inr (false, (6, .ofNat 0))), (7, .inr (false, (0, .ofNat 13))), (8, .inr (false, (7, .ofNat 0))), (9, .inr (false, (8, .ofNat 0)))], [], [(32, (0, .ofNat 9), .inl 37), (32, (0, .ofNat 10), .inr (false, (9, .ofNat 0))), (32, (0, .ofNat 11), .inr (false, (10, .ofNat 0)))], []), ((0, 0, .ofNat 4), (0, 0, .ofNat 0), (0, 0, .ofNat 0)), 0, 0), 
  (38, (11, [(1, .ofNat 0, .ofNat 16), (2, .ofNat 0, .ofNat 16), (3, .ofNat 14, .ofNat 17), (4, .negSucc 2147483647, .ofNat 2147483647), (5, .ofNat 0, .ofNat 14), (6, .ofNat 0, .ofNat 1), (7, .ofNat 0, .ofNat 16), (8, .negSucc 0, .ofNat 2147480647), (9, .ofNat 0, .ofNat 17), (10, .negSucc 2147483647, .ofNat 2147483647)], [(3, 9, .ofNat 14), (9, 3, .ofNat 0)], [(0, .inl 32), (1, .inr (false, (1, .ofNat 0))), (2, .inr (false, (2, .ofNat 0))), (3, .inr (false, (4, .ofNat 0))), (4, .inr (false, (3, .ofNat 0))), (5, .inr (false, (5, .ofNat 0))), (6, .inr (false, (6, .ofNat 0))), (7, .inr (false, (0, .ofNat 14))), (8, .inr (false, (7, .ofNat 0))), (9, .inr (false, (8, .ofNat 0)))], [], [(32, (0, .ofNat 9), .inl 37), (32, (0, .ofNat 10), .inr (false, (9, .ofNat 0))), (32, (0, .ofNat 11), .inr (false, (10, .ofNat 0)))], []), ((0, 0, .ofNat 3), (0, 0, .ofNat 0), (0, 0, .ofNat 0)), 0, 0), 
  (38, (11, [(1, .ofNat 0, .ofNat 16), (2, .ofNat 0, .ofNat 16), (3, .ofNat 15, .ofNat 17), (4, .negSucc 2147483647, .ofNat 2147483647), (5, .ofNat 0, .ofNat 15), (6, .ofNat 0, .ofNat 1), (7, .ofNat 0, .ofNat 16), (8, .negSucc 0, .ofNat 2147480647), (9, .ofNat 0, .ofNat 17), (10, .negSucc 2147483647, .ofNat 2147483647)], [(3, 9, .ofNat 15), (9, 3, .ofNat 0)], [(0, .inl 32), (1, .inr (false, (1, .ofNat 0))), (2, .inr (false, (2, .ofNat 0))), (3, .inr (false, (4, .ofNat 0))), (4, .inr (false, (3, .ofNat 0))), (5, .inr (false, (5, .ofNat 0))), (6, .inr (false, (6, .ofNat 0))), (7, .inr (false, (0, .ofNat 15))), (8, .inr (false, (7, .ofNat 0))), (9, .inr (false, (8, .ofNat 0)))], [], [(32, (0, .ofNat 9), .inl 37), (32, (0, .ofNat 10), .inr (false, (9, .ofNat 0))), (32, (0, .ofNat 11), .inr (false, (10, .ofNat 0)))], []), ((0, 0, .ofNat 2), (0, 0, .ofNat 0), (0, 0, .ofNat 0)), 0, 0), 
  (38, (11, [(1, .ofNat 0, .ofNat 16), (2, .ofNat 0, .ofNat 16), (3, .ofNat 16, .ofNat 17), (4, .negSucc 2147483647, .ofNat 2147483647), (5, .ofNat 0, .ofNat 16), (6, .ofNat 0, .ofNat 1), (7, .ofNat 0, .ofNat 16), (8, .negSucc 0, .ofNat 2147480647), (9, .ofNat 0, .ofNat 17), (10, .negSucc 2147483647, .ofNat 2147483647)], [(3, 9, .ofNat 16), (9, 3, .ofNat 0)], [(0, .inl 32), (1, .inr (false, (1, .ofNat 0))), (2, .inr (false, (2, .ofNat 0))), (3, .inr (false, (4, .ofNat 0))), (4, .inr (false, (3, .ofNat 0))), (5, .inr (false, (5, .ofNat 0))), (6, .inr (false, (6, .ofNat 0))), (7, .inr (false, (0, .ofNat 16))), (8, .inr (false, (7, .ofNat 0))), (9, .inr (false, (8, .ofNat 0)))], [], [(32, (0, .ofNat 9), .inl 37), (32, (0, .ofNat 10), .inr (false, (9, .ofNat 0))), (32, (0, .ofNat 11), .inr (false, (10, .ofNat 0)))], []), ((0, 0, .ofNat 1), (0, 0, .ofNat 0), (0, 0, .ofNat 0)), 0, 0), 
  (38, (11, [(1, .ofNat 0, .ofNat 16), (2, .ofNat 0, .ofNat 16), (3, .ofNat 17, .ofNat 17), (4, .negSucc 2147483647, .ofNat 2147483647), (5, .ofNat 0, .ofNat 17), (6, .ofNat 0, .ofNat 1), (7, .ofNat 0, .ofNat 16), (8, .negSucc 0, .ofNat 2147480647), (9, .ofNat 0, .ofNat 17), (10, .negSucc 2147483647, .ofNat 2147483647)], [], [(0, .inl 32), (1, .inr (false, (1, .ofNat 0))), (2, .inr (false, (2, .ofNat 0))), (3, .inr (false, (4, .ofNat 0))), (4, .inr (false, (3, .ofNat 0))), (5, .inr (false, (5, .ofNat 0))), (6, .inr (false, (6, .ofNat 0))), (7, .inr (false, (0, .ofNat 17))), (8, .inr (false, (7, .ofNat 0))), (9, .inr (false, (8, .ofNat 0)))], [], [(32, (0, .ofNat 9), .inl 37), (32, (0, .ofNat 10), .inr (false, (9, .ofNat 0))), (32, (0, .ofNat 11), .inr (false, (10, .ofNat 0)))], []), ((0, 0, .ofNat 0), (0, 0, .ofNat 0), (0, 0, .ofNat 0)), 0, 0), 
  (38, (11, [(1, .ofNat 0, .ofNat 16), (2, .ofNat 0, .ofNat 16), (3, .ofNat 2, .ofNat 17), (4, .negSucc 2147483647, .ofNat 2147483647), (5, .ofNat 0, .ofNat 2), (6, .ofNat 0, .ofNat 1), (7, .ofNat 0, .ofNat 16), (8, .negSucc 0, .ofNat 2147480647), (9, .ofNat 0, .ofNat 17), (10, .negSucc 2147483647, .ofNat 2147483647)], [(3, 9, .ofNat 2), (9, 3, .ofNat 0)], [(0, .inl 32), (1, .inr (false, (1, .ofNat 0))), (2, .inr (false, (2, .ofNat 0))), (3, .inr (false, (4, .ofNat 0))), (4, .inr (false, (3, .ofNat 0))), (5, .inr (false, (5, .ofNat 0))), (6, .inr (false, (6, .ofNat 0))), (7, .inr (false, (0, .ofNat 2))), (8, .inr (false, (7, .ofNat 0))), (9, .inr (false, (8, .ofNat 0)))], [], [(32, (0, .ofNat 9), .inl 37), (32, (0, .ofNat 10), .inr (false, (9, .ofNat 0))), (32, (0, .ofNat 11), .inr (false, (10, .ofNat 0)))], []), ((0, 0, .ofNat 15), (0, 0, .ofNat 0), (0, 0, .ofNat 0)), 0, 0), 
  (38, (11, [(1, .ofNat 0, .ofNat 16), (2, .ofNat 0, .ofNat 16), (3, .ofNat 3, .ofNat 17), (4, .negSucc 2147483647, .ofNat 2147483647), (5, .ofNat 0, .ofNat 3), (6, .ofNat 0, .ofNat 1), (7, .ofNat 0, .ofNat 16), (8, .negSucc 0, .ofNat 2147480647), (9, .ofNat 0, .ofNat 17), (10, .negSucc 2147483647, .ofNat 2147483647)], [(3, 9, .ofNat 3), (9, 3, .ofNat 0)], [(0, .inl 32), (1, .inr (false, (1, .ofNat 0))), (2, .inr (false, (2, .ofNat 0))), (3, .inr (false, (4, .ofNat 0))), (4, .inr (false, (3, .ofNat 0))), (5, .inr (false, (5, .ofNat 0))), (6, .inr (false, (6, .ofNat 0))), (7, .inr (false, (0, .ofNat 3))), (8, .inr (false, (7, .ofNat 0))), (9, .inr (false, (8, .ofNat 0)))], [], [(32, (0, .ofNat 9), .inl 37), (32, (0, .ofNat 10), .inr (false, (9, .ofNat 0))), (32, (0, .ofNat 11), .inr (false, (10, .ofNat 0)))], []), ((0, 0, .ofNat 14), (0, 0, .ofNat 0), (0, 0, .ofNat 0)), 0, 0), 
  (38, (11, [(1, .ofNat 0, .ofNat 16), (2, .ofNat 0, .ofNat 16), (3, .ofNat 4, .ofNat 17), (4, .negSucc 2147483647, .ofNat 2147483647), (5, .ofNat 0, .ofNat 4), (6, .ofNat 0, .ofNat 1), (7, .ofNat 0, .ofNat 16), (8, .negSucc 0, .ofNat 2147480647), (9, .ofNat 0, .ofNat 17), (10, .negSucc 2147483647, .ofNat 2147483647)], [(3, 9, .ofNat 4), (9, 3, .ofNat 0)], [(0, .inl 32), (1, .inr (false, (1, .ofNat 0))), (2, .inr (false, (2, .ofNat 0))), (3, .inr (false, (4, .ofNat 0))), (4, .inr (false, (3, .ofNat 0))), (5, .inr (false, (5, .ofNat 0))), (6, .inr (false, (6, .ofNat 0))), (7, .inr (false, (0, .ofNat 4))), (8, .inr (false, (7, .ofNat 0))), (9, .inr (false, (8, .ofNat 0)))], [], [(32, (0, .ofNat 9), .inl 37), (32, (0, .ofNat 10), .inr (false, (9, .ofNat 0))), (32, (0, .ofNat 11), .inr (false, (10, .ofNat 0)))], []), ((0, 0, .ofNat 13), (0, 0, .ofNat 0), (0, 0, .ofNat 0)), 0, 0), 
  (38, (11, [(1, .ofNat 0, .ofNat 16), (2, .ofNat 0, .ofNat 16), (3, .ofNat 5, .ofNat 17), (4, .negSucc 2147483647, .ofNat 2147483647), (5, .ofNat 0, .ofNat 5), (6, .ofNat 0, .ofNat 1), (7, .ofNat 0, .ofNat 16), (8, .negSucc 0, .ofNat 2147480647), (9, .ofNat 0, .ofNat 17), (10, .negSucc 2147483647, .ofNat 2147483647)], [(3, 9, .ofNat 5), (9, 3, .ofNat 0)], [(0, .inl 32), (1, .inr (false, (1, .ofNat 0))), (2, .inr (false, (2, .ofNat 0))), (3, .inr (false, (4, .ofNat 0))), (4, .inr (false, (3, .ofNat 0))), (5, .inr (false, (5, .ofNat 0))), (6, .inr (false, (6, .ofNat 0))), (7, .inr (false, (0, .ofNat 5))), (8, .inr (false, (7, .ofNat 0))), (9, .inr (false, (8, .ofNat 0)))], [], [(32, (0, .ofNat 9), .inl 37), (32, (0, .ofNat 10), .inr (false, (9, .ofNat 0))), (32, (0, .ofNat 11), .inr (false, (10, .ofNat 0)))], []), ((0, 0, .ofNat 12), (0, 0, .ofNat 0), (0, 0, .ofNat 0)), 0, 0), 
  (38, (11, [(1, .ofNat 0, .ofNat 16), (2, .ofNat 0, .ofNat 16), (3, .ofNat 6, .ofNat 17), (4, .negSucc 2147483647, .ofNat 2147483647), (5, .ofNat 0, .ofNat 6), (6, .ofNat 0, .ofNat 1), (7, .ofNat 0, .ofNat 16), (8, .negSucc 0, .ofNat 2147480647), (9, .ofNat 0, .ofNat 17), (10, .negSucc 2147483647, .ofNat 2147483647)], [(3, 9, .ofNat 6), (9, 3, .ofNat 0)], [(0, .inl 32), (1, .inr (false, (1, .ofNat 0))), (2, .inr (false, (2, .ofNat 0))), (3, .inr (false, (4, .ofNat 0))), (4, .inr (false, (3, .ofNat 0))), (5, .inr (false, (5, .ofNat 0))), (6, .inr (false, (6, .ofNat 0))), (7, .inr (false, (0, .ofNat 6))), (8, .inr (false, (7, .ofNat 0))), (9, .inr (false, (8, .ofNat 0)))], [], [(32, (0, .ofNat 9), .inl 37), (32, (0, .ofNat 10), .inr (false, (9, .ofNat 0))), (32, (0, .ofNat 11), .inr (false, (10, .ofNat 0)))], []), ((0, 0, .ofNat 11), (0, 0, .ofNat 0), (0, 0, .ofNat 0)), 0, 0), 
  (38, (11, [(1, .ofNat 0, .ofNat 16), (2, .ofNat 0, .ofNat 16), (3, .ofNat 7, .ofNat 17), (4, .negSucc 2147483647, .ofNat 2147483647), (5, .ofNat 0, .ofNat 7), (6, .ofNat 0, .ofNat 1), (7, .ofNat 0, .ofNat 16), (8, .negSucc 0, .ofNat 2147480647), (9, .ofNat 0, .ofNat 17), (10, .negSucc 2147483647, .ofNat 2147483647)], [(3, 9, .ofNat 7), (9, 3, .ofNat 0)], [(0, .inl 32), (1, .inr (false, (1, .ofNat 0))), (2, .inr (false, (2, .ofNat 0))), (3, .inr (false, (4, .ofNat 0))), (4, .inr (false, (3, .ofNat 0))), (5, .inr (false, (5, .ofNat 0))), (6, .inr (false, (6, .ofNat 0))), (7, .inr (false, (0, .ofNat 7))), (8, .inr (false, (7, .ofNat 0))), (9, .inr (false, (8, .ofNat 0)))], [], [(32, (0, .ofNat 9), .inl 37), (32, (0, .ofNat 10), .inr (false, (9, .ofNat 0))), (32, (0, .ofNat 11), .inr (false, (10, .ofNat 0)))], []), ((0, 0, .ofNat 10), (0, 0, .ofNat 0), (0, 0, .ofNat 0)), 0, 0), 
  (38, (11, [(1, .ofNat 0, .ofNat 16), (2, .ofNat 0, .ofNat 16), (3, .ofNat 8, .ofNat 17), (4, .negSucc 2147483647, .ofNat 2147483647), (5, .ofNat 0, .ofNat 8), (6, .ofNat 0, .ofNat 1), (7, .ofNat 0, .ofNat 16), (8, .negSucc 0, .ofNat 2147480647), (9, .ofNat 0, .ofNat 17), (10, .negSucc 2147483647, .ofNat 2147483647)], [(3, 9, .ofNat 8), (9, 3, .ofNat 0)], [(0, .inl 32), (1, .inr (false, (1, .ofNat 0))), (2, .inr (false, (2, .ofNat 0))), (3, .inr (false, (4, .ofNat 0))), (4, .inr (false, (3, .ofNat 0))), (5, .inr (false, (5, .ofNat 0))), (6, .inr (false, (6, .ofNat 0))), (7, .inr (false, (0, .ofNat 8))), (8, .inr (false, (7, .ofNat 0))), (9, .inr (false, (8, .ofNat 0)))], [], [(32, (0, .ofNat 9), .inl 37), (32, (0, .ofNat 10), .inr (false, (9, .ofNat 0))), (32, (0, .ofNat 11), .inr (false, (10, .ofNat 0)))], []), ((0, 0, .ofNat 9), (0, 0, .ofNat 0), (0, 0, .ofNat 0)), 0, 0), 
  (38, (11, [(1, .ofNat 0, .ofNat 16), (2, .ofNat 0, .ofNat 16), (3, .ofNat 9, .ofNat 17), (4, .negSucc 2147483647, .ofNat 2147483647), (5, .ofNat 0, .ofNat 9), (6, .ofNat 0, .ofNat 1), (7, .ofNat 0, .ofNat 16), (8, .negSucc 0, .ofNat 2147480647), (9, .ofNat 0, .ofNat 17), (10, .negSucc 2147483647, .ofNat 2147483647)], [(3, 9, .ofNat 9), (9, 3, .ofNat 0)], [(0, .inl 32), (1, .inr (false, (1, .ofNat 0))), (2, .inr (false, (2, .ofNat 0))), (3, .inr (false, (4, .ofNat 0))), (4, .inr (false, (3, .ofNat 0))), (5, .inr (false, (5, .ofNat 0))), (6, .inr (false, (6, .ofNat 0))), (7, .inr (false, (0, .ofNat 9))), (8, .inr (false, (7, .ofNat 0))), (9, .inr (false, (8, .ofNat 0)))], [], [(32, (0, .ofNat 9), .inl 37), (32, (0, .ofNat 10), .inr (false, (9, .ofNat 0))), (32, (0, .ofNat 11), .inr (false, (10, .ofNat 0)))], []), ((0, 0, .ofNat 8), (0, 0, .ofNat 0), (0, 0, .ofNat 0)), 0, 0)]
set_option maxRecDepth 1000000 in
theorem cv1367 {gh : sxGh} (hg : sxGd sxKw gh) : sxCtV sxKw gh ct1367 := sxMeB_ok (cts := [ct1366]) (cuts := cu1367) (sp := []) 3965 (by decide +kernel) hg (by decide) (by decide) (List.forall_mem_cons.mpr ⟨cv1366 hg, (fun _ h => absurd h List.not_mem_nil)⟩)
/-- LotBeliefs.Course.play -/
def ct1368 : sxCt := (2, 4, (3, [(1, .ofNat 0, .ofNat 17), (2, .ofNat 0, .ofNat 1)], [], [(0, .inl 32), (1, .inl 31), (2, .inr (false, (1, .ofNat 0))), (3, .inr (false, (2, .ofNat 0)))], [], [], []), [(21, 0), (22, 0), (25, 0), (26, 0), (32, 9), (32, 11), (32, 12), (33, 0), (34, 0), (35, 0), (36, 0), (37, 0)], [
  (5, [(1, .ofNat 0, .ofNat 17), (2, .ofNat 0, .ofNat 1), (3, .ofNat 0, .ofNat 4095), (4, .negSucc 2147483647, .ofNat 2147483647)], [], [], [], [(32, (0, .ofNat 8), .inr (false, (3, .ofNat 0))), (32, (0, .ofNat 11), .inr (false, (4, .ofNat 0)))], [])], [], 0, 0)
def cu1368 : List sxCu := [
  (9, (4, [(1, .ofNat 0, .ofNat 17), (2, .ofNat 0, .ofNat 1), (3, .ofNat 0, .ofNat 17)], [(2, 3, .ofNat 0), (3, 1, .ofNat 1)], [(0, .inl 32), (1, .inl 31), (2, .inr (false, (1, .ofNat 0))), (3, .inr (false, (2, .ofNat 0))), (4, .inr (false, (3, .ofNat 0)))], [], [], []), ((0, 3, .ofNat 17), (0, 0, .ofNat 0), (0, 0, .ofNat 0)), 0, 0)]
set_option maxRecDepth 1000000 in
theorem cv1368 {gh : sxGh} (hg : sxGd sxKw gh) : sxCtV sxKw gh ct1368 := sxMeB_ok (cts := [ct389, ct261, ct1356, ct277, ct1357, ct1367]) (cuts := cu1368) (sp := []) 134 (by decide +kernel) hg (by decide) (by decide) (List.forall_mem_cons.mpr ⟨cv389 hg, (List.forall_mem_cons.mpr ⟨cv261 hg, (List.forall_mem_cons.mpr ⟨cv1356 hg, (List.forall_mem_cons.mpr ⟨cv277 hg, (List.forall_mem_cons.mpr ⟨cv1357 hg, (List.forall_mem_cons.mpr ⟨cv1367 hg, (fun _ h => absurd h List.not_mem_nil)⟩)⟩)⟩)⟩)⟩)⟩)
/-- LotBeliefs.salted -/
def ct1383 : sxCt := (143, 6, (2, [(1, .negSucc 2147483647, .ofNat 2147483647)], [], [(0, .inl 0), (1, .inr (false, (1, .ofNat 0)))], [], [], []), [(21, 0), (22, 0), (25, 0), (26, 0), (30, 0), (31, 0), (32, 1), (32, 2), (32, 3), (32, 4), (32, 9), (32, 11), (32, 12), (33, 0), (34, 0), (35, 0), (36, 0), (37, 0)], [
  (3, [(1, .ofNat 0, .ofNat 4095), (2, .negSucc 0, .ofNat 37)], [], [], [.inr (false, (2, .ofNat 0))], [], [])], [
  (1, (3, [(1, .negSucc 2147483647, .ofNat 2147483647), (2, .negSucc 2147483647, .ofNat 2147483647)], [], [], [], [(30, (0, .ofNat 1), .inr (false, (2, .ofNat 0)))], []))], 1, 6)
def cu1383 : List sxCu := [
  (20, (5, [(1, .ofNat 0, .ofNat 4095), (2, .negSucc 0, .ofNat 37), (3, .ofNat 0, .ofNat 6), (4, .ofNat 0, .ofNat 38)], [(2, 4, .negSucc 0)], [(0, .inl 0), (1, .inr (false, (1, .ofNat 0))), (2, .inr (false, (2, .ofNat 0))), (3, .inr (false, (3, .ofNat 0))), (4, .inr (false, (4, .ofNat 0)))], [], [], []), ((0, 4, .ofNat 38), (0, 0, .ofNat 0), (0, 0, .ofNat 0)), 0, 0)]
set_option maxRecDepth 1000000 in
theorem cv1383 {gh : sxGh} (hg : sxGd sxKw gh) : sxCtV sxKw gh ct1383 := sxMeB_ok (cts := [ct1368, ct1331, ct62]) (cuts := cu1383) (sp := []) 380 (by decide +kernel) hg (by decide) (by decide) (List.forall_mem_cons.mpr ⟨cv1368 hg, (List.forall_mem_cons.mpr ⟨cv1331 hg, (List.forall_mem_cons.mpr ⟨cv62 hg, (fun _ h => absurd h List.not_mem_nil)⟩)⟩)⟩)
/-- LotBeliefs.likely -/
def ct1436 : sxCt := (142, 3, (2, [(1, .negSucc 2147483647, .ofNat 2147483647)], [], [(0, .inl 0), (1, .inr (false, (1, .ofNat 0)))], [], [], []), [(30, 0)], [
  (3, [(1, .ofNat 0, .ofNat 51), (2, .negSucc 0, .ofNat 63)], [], [], [.inr (false, (2, .ofNat 0))], [], [])], [
  (1, (3, [(1, .negSucc 2147483647, .ofNat 2147483647), (2, .negSucc 2147483647, .ofNat 2147483647)], [], [], [], [(30, (0, .ofNat 1), .inr (false, (2, .ofNat 0)))], []))], 1, 6)
def cu1436 : List sxCu := [
  (12, (5, [(1, .ofNat 0, .ofNat 51), (2, .negSucc 0, .ofNat 63), (3, .negSucc 0, .ofNat 63), (4, .ofNat 0, .ofNat 64)], [(2, 4, .negSucc 0), (3, 2, .ofNat 63), (3, 4, .ofNat 62)], [(0, .inl 0), (1, .inr (false, (1, .ofNat 0))), (2, .inr (false, (2, .ofNat 0))), (3, .inr (false, (3, .ofNat 0))), (4, .inr (false, (4, .ofNat 0)))], [], [], []), ((0, 4, .ofNat 64), (0, 0, .ofNat 0), (0, 0, .ofNat 0)), 0, 0)]
set_option maxRecDepth 1000000 in
theorem cv1436 {gh : sxGh} (hg : sxGd sxKw gh) : sxCtV sxKw gh ct1436 := sxMeB_ok (cts := [ct388, ct260, ct84]) (cuts := cu1436) (sp := []) 184 (by decide +kernel) hg (by decide) (by decide) (List.forall_mem_cons.mpr ⟨cv388 hg, (List.forall_mem_cons.mpr ⟨cv260 hg, (List.forall_mem_cons.mpr ⟨cv84 hg, (fun _ h => absurd h List.not_mem_nil)⟩)⟩)⟩)
/-- LotBeliefsModel.likely -/
def ct1437 : sxCt := (304, 2, (2, [(1, .negSucc 2147483647, .ofNat 2147483647)], [], [(0, .inl 78), (1, .inr (false, (1, .ofNat 0)))], [], [], []), [(78, 1), (80, 0)], [
  (4, [(1, .negSucc 2147483647, .ofNat 2147483647), (2, .negSucc 0, .ofNat 63), (3, .ofNat 0, .ofNat 1)], [(3, 2, .ofNat 1)], [], [.inr (false, (2, .ofNat 0))], [(78, (0, .ofNat 0), .inr (false, (3, .ofNat 0)))], [])], [], 0, 0)
def cu1437 : List sxCu := [
  (35, (5, [(1, .ofNat 0, .ofNat 51), (2, .negSucc 0, .ofNat 63), (3, .negSucc 0, .ofNat 2147483647), (4, .ofNat 0, .ofNat 64)], [(2, 4, .negSucc 0)], [(0, .inl 78), (1, .inr (false, (1, .ofNat 0))), (2, .inr (false, (2, .ofNat 0))), (3, .inr (false, (3, .ofNat 0))), (4, .inr (false, (4, .ofNat 0)))], [], [(78, (0, .ofNat 0), .inr (false, (0, .ofNat 0)))], []), ((0, 4, .ofNat 64), (0, 0, .ofNat 13), (0, 0, .ofNat 0)), 0, 0), 
  (73, (8, [(1, .ofNat 0, .ofNat 51), (2, .negSucc 0, .ofNat 62), (3, .negSucc 0, .ofNat 2147483647), (4, .ofNat 0, .ofNat 63), (5, .negSucc 2147483647, .ofNat 2147483647), (6, .ofNat 0, .ofNat 12), (7, .ofNat 0, .ofNat 6)], [(2, 4, .negSucc 0)], [(0, .inl 78), (1, .inr (false, (1, .ofNat 0))), (2, .inr (false, (2, .ofNat 0))), (3, .inr (false, (3, .ofNat 0))), (4, .inr (false, (4, .ofNat 0))), (5, .inr (false, (5, .ofNat 0))), (6, .inr (false, (6, .ofNat 0)))], [], [(78, (0, .ofNat 0), .inr (false, (0, .ofNat 0))), (78, (0, .ofNat 12), .inl 82), (78, (0, .ofNat 19), .inl 89), (82, (0, .ofNat 0), .inr (false, (7, .ofNat 0)))], []), ((0, 4, .ofNat 64), (0, 6, .ofNat 12), (0, 0, .ofNat 0)), 0, 0)]
set_option maxRecDepth 1000000 in
theorem cv1437 {gh : sxGh} (hg : sxGd sxKw gh) : sxCtV sxKw gh ct1437 := sxMeB_ok (cts := []) (cuts := cu1437) (sp := []) 228 (by decide +kernel) hg (by decide) (by decide) (fun _ h => absurd h List.not_mem_nil)
/-- LotBeliefsModel.likely -/
def ct1438 : sxCt := (304, 2, (2, [(1, .ofNat 0, .ofNat 51)], [], [(0, .inl 78), (1, .inr (false, (1, .ofNat 0)))], [], [], []), [(78, 1)], [
  (3, [(1, .ofNat 0, .ofNat 51), (2, .negSucc 0, .ofNat 63)], [], [], [.inr (false, (2, .ofNat 0))], [(78, (0, .ofNat 0), .inr (false, (0, .ofNat 0)))], [])], [], 0, 0)
def cu1438 : List sxCu := [
  (35, (5, [(1, .ofNat 0, .ofNat 51), (2, .negSucc 0, .ofNat 63), (3, .negSucc 0, .ofNat 2147483647), (4, .ofNat 0, .ofNat 64)], [(2, 4, .negSucc 0)], [(0, .inl 78), (1, .inr (false, (1, .ofNat 0))), (2, .inr (false, (2, .ofNat 0))), (3, .inr (false, (3, .ofNat 0))), (4, .inr (false, (4, .ofNat 0)))], [], [(78, (0, .ofNat 0), .inr (false, (0, .ofNat 0)))], []), ((0, 4, .ofNat 64), (0, 0, .ofNat 13), (0, 0, .ofNat 0)), 0, 0), 
  (73, (8, [(1, .ofNat 0, .ofNat 51), (2, .negSucc 0, .ofNat 62), (3, .negSucc 0, .ofNat 2147483647), (4, .ofNat 0, .ofNat 63), (5, .negSucc 2147483647, .ofNat 2147483647), (6, .ofNat 0, .ofNat 12), (7, .ofNat 0, .ofNat 6)], [(2, 4, .negSucc 0)], [(0, .inl 78), (1, .inr (false, (1, .ofNat 0))), (2, .inr (false, (2, .ofNat 0))), (3, .inr (false, (3, .ofNat 0))), (4, .inr (false, (4, .ofNat 0))), (5, .inr (false, (5, .ofNat 0))), (6, .inr (false, (6, .ofNat 0)))], [], [(78, (0, .ofNat 0), .inr (false, (0, .ofNat 0))), (78, (0, .ofNat 12), .inl 82), (78, (0, .ofNat 19), .inl 89), (82, (0, .ofNat 0), .inr (false, (7, .ofNat 0)))], []), ((0, 4, .ofNat 64), (0, 6, .ofNat 12), (0, 0, .ofNat 0)), 0, 0)]
set_option maxRecDepth 1000000 in
theorem cv1438 {gh : sxGh} (hg : sxGd sxKw gh) : sxCtV sxKw gh ct1438 := sxMeB_ok (cts := []) (cuts := cu1438) (sp := []) 160 (by decide +kernel) hg (by decide) (by decide) (fun _ h => absurd h List.not_mem_nil)
/-- LotBeliefs.split -/
def ct1439 : sxCt := (141, 3, (3, [(1, .negSucc 2147483647, .ofNat 2147483647), (2, .negSucc 2147483647, .ofNat 2147483647)], [], [(0, .inl 0), (1, .inr (false, (1, .ofNat 0))), (2, .inr (false, (2, .ofNat 0)))], [], [], []), [(30, 0)], [
  (4, [(1, .ofNat 0, .ofNat 51), (2, .ofNat 0, .ofNat 1), (3, .ofNat 0, .ofNat 127)], [], [], [.inr (false, (3, .ofNat 0))], [], [])], [
  (1, (4, [(1, .negSucc 2147483647, .ofNat 2147483647), (2, .negSucc 2147483647, .ofNat 2147483647), (3, .negSucc 2147483647, .ofNat 2147483647)], [], [], [], [(30, (0, .ofNat 1), .inr (false, (3, .ofNat 0)))], []))], 1, 6)
def cu1439 : List sxCu := [
  (27, (6, [(1, .ofNat 0, .ofNat 51), (2, .ofNat 0, .ofNat 1), (3, .ofNat 0, .ofNat 5), (4, .ofNat 0, .ofNat 127), (5, .ofNat 1, .ofNat 6)], [(3, 5, .negSucc 0)], [(0, .inl 0), (1, .inr (false, (1, .ofNat 0))), (2, .inr (false, (2, .ofNat 0))), (3, .inr (false, (3, .ofNat 0))), (4, .inr (false, (4, .ofNat 0))), (5, .inr (false, (5, .ofNat 0)))], [], [], []), ((0, 5, .ofNat 6), (0, 0, .ofNat 0), (0, 0, .ofNat 0)), 0, 0)]
set_option maxRecDepth 1000000 in
theorem cv1439 {gh : sxGh} (hg : sxGd sxKw gh) : sxCtV sxKw gh ct1439 := sxMeB_ok (cts := [ct24]) (cuts := cu1439) (sp := []) 725 (by decide +kernel) hg (by decide) (by decide) (List.forall_mem_cons.mpr ⟨cv24 hg, (fun _ h => absurd h List.not_mem_nil)⟩)
/-- LotBeliefsModel.split -/
def ct1442 : sxCt := (303, 2, (3, [(1, .negSucc 2147483647, .ofNat 2147483647), (2, .negSucc 2147483647, .ofNat 2147483647)], [], [(0, .inl 78), (1, .inr (false, (1, .ofNat 0))), (2, .inr (false, (2, .ofNat 0)))], [], [], []), [(78, 1), (80, 0)], [
  (5, [(1, .negSucc 2147483647, .ofNat 2147483647), (2, .negSucc 2147483647, .ofNat 2147483647), (3, .negSucc 2147483647, .ofNat 2147483647), (4, .ofNat 0, .ofNat 1)], [], [], [.inr (false, (3, .ofNat 0))], [(78, (0, .ofNat 0), .inr (false, (4, .ofNat 0)))], [])], [], 0, 0)
def cu1442 : List sxCu := [
  (45, (6, [(1, .ofNat 0, .ofNat 51), (2, .ofNat 0, .ofNat 1), (3, .negSucc 0, .ofNat 5), (4, .negSucc 2147483647, .ofNat 2147483647), (5, .ofNat 0, .ofNat 6)], [(3, 5, .negSucc 0)], [(0, .inl 78), (1, .inr (false, (1, .ofNat 0))), (2, .inr (false, (2, .ofNat 0))), (3, .inr (false, (3, .ofNat 0))), (4, .inr (false, (4, .ofNat 0))), (5, .inr (false, (5, .ofNat 0)))], [], [(78, (0, .ofNat 0), .inr (false, (0, .ofNat 0)))], []), ((0, 5, .ofNat 6), (0, 0, .ofNat 0), (0, 0, .ofNat 0)), 0, 0)]
set_option maxRecDepth 1000000 in
theorem cv1442 {gh : sxGh} (hg : sxGd sxKw gh) : sxCtV sxKw gh ct1442 := sxMeB_ok (cts := [ct607, ct93]) (cuts := cu1442) (sp := []) 334 (by decide +kernel) hg (by decide) (by decide) (List.forall_mem_cons.mpr ⟨cv607 hg, (List.forall_mem_cons.mpr ⟨cv93 hg, (fun _ h => absurd h List.not_mem_nil)⟩)⟩)
/-- LotBeliefsModel.split -/
def ct1443 : sxCt := (303, 2, (3, [(1, .ofNat 0, .ofNat 51), (2, .ofNat 0, .ofNat 1)], [], [(0, .inl 78), (1, .inr (false, (1, .ofNat 0))), (2, .inr (false, (2, .ofNat 0)))], [], [], []), [(78, 1)], [
  (4, [(1, .ofNat 0, .ofNat 51), (2, .ofNat 0, .ofNat 1), (3, .negSucc 2147483647, .ofNat 2147483647)], [], [], [.inr (false, (3, .ofNat 0))], [(78, (0, .ofNat 0), .inr (false, (0, .ofNat 0)))], [])], [], 0, 0)
def cu1443 : List sxCu := [
  (45, (6, [(1, .ofNat 0, .ofNat 51), (2, .ofNat 0, .ofNat 1), (3, .negSucc 0, .ofNat 5), (4, .negSucc 2147483647, .ofNat 2147483647), (5, .ofNat 0, .ofNat 6)], [(3, 5, .negSucc 0)], [(0, .inl 78), (1, .inr (false, (1, .ofNat 0))), (2, .inr (false, (2, .ofNat 0))), (3, .inr (false, (3, .ofNat 0))), (4, .inr (false, (4, .ofNat 0))), (5, .inr (false, (5, .ofNat 0)))], [], [(78, (0, .ofNat 0), .inr (false, (0, .ofNat 0)))], []), ((0, 5, .ofNat 6), (0, 0, .ofNat 0), (0, 0, .ofNat 0)), 0, 0)]
set_option maxRecDepth 1000000 in
theorem cv1443 {gh : sxGh} (hg : sxGd sxKw gh) : sxCtV sxKw gh ct1443 := sxMeB_ok (cts := [ct607, ct93]) (cuts := cu1443) (sp := []) 200 (by decide +kernel) hg (by decide) (by decide) (List.forall_mem_cons.mpr ⟨cv607 hg, (List.forall_mem_cons.mpr ⟨cv93 hg, (fun _ h => absurd h List.not_mem_nil)⟩)⟩)
/-- LotBeliefsModel.proof -/
def ct1470 : sxCt := (302, 2, (2, [(1, .negSucc 2147483647, .ofNat 2147483647)], [], [(0, .inl 78), (1, .inr (false, (1, .ofNat 0)))], [], [], []), [(78, 1), (80, 0)], [
  (4, [(1, .negSucc 2147483647, .ofNat 2147483647), (2, .negSucc 0, .ofNat 4095), (3, .ofNat 0, .ofNat 1)], [(3, 2, .ofNat 1)], [], [.inr (false, (2, .ofNat 0))], [(78, (0, .ofNat 0), .inr (false, (3, .ofNat 0)))], [])], [], 0, 0)
def cu1470 : List sxCu := [
  (32, (4, [(1, .ofNat 0, .ofNat 51), (2, .negSucc 0, .ofNat 4095), (3, .ofNat 0, .ofNat 4096)], [(2, 3, .negSucc 0)], [(0, .inl 78), (1, .inr (false, (1, .ofNat 0))), (2, .inr (false, (2, .ofNat 0))), (3, .inr (false, (3, .ofNat 0)))], [], [(78, (0, .ofNat 0), .inr (false, (0, .ofNat 0)))], []), ((0, 3, .ofNat 4096), (0, 0, .ofNat 0), (0, 0, .ofNat 0)), 0, 0)]
set_option maxRecDepth 1000000 in
theorem cv1470 {gh : sxGh} (hg : sxGd sxKw gh) : sxCtV sxKw gh ct1470 := sxMeB_ok (cts := [ct88, ct1146]) (cuts := cu1470) (sp := []) 262 (by decide +kernel) hg (by decide) (by decide) (List.forall_mem_cons.mpr ⟨cv88 hg, (List.forall_mem_cons.mpr ⟨cv1146 hg, (fun _ h => absurd h List.not_mem_nil)⟩)⟩)
/-- LotBeliefs.Subsets.fill -/
def ct1471 : sxCt := (58, 0, (2, [(1, .ofNat 0, .ofNat 51)], [], [(0, .inl 45), (1, .inl 11), (2, .inr (false, (1, .ofNat 0)))], [], [], []), [(45, 2), (45, 3), (46, 0)], [
  (5, [(1, .ofNat 0, .ofNat 51), (2, .ofNat 0, .ofNat 12), (3, .ofNat 1, .ofNat 4096), (4, .negSucc 9223372036854775807, .ofNat 9223372036854775807)], [], [], [], [(45, (0, .ofNat 1), .inr (false, (2, .ofNat 0))), (45, (0, .ofNat 2), .inr (false, (3, .ofNat 0))), (46, (0, .ofNat 0), .inr (true, (4, .ofNat 0)))], [])], [], 0, 0)
def cu1471 : List sxCu := [
  (40, (6, [(1, .ofNat 0, .ofNat 51), (2, .ofNat 0, .ofNat 12), (3, .ofNat 0, .ofNat 12), (4, .ofNat 1, .ofNat 4096), (5, .negSucc 9223372036854775807, .ofNat 9223372036854775807)], [], [(0, .inl 45), (1, .inl 11), (2, .inr (false, (1, .ofNat 0))), (3, .inr (false, (2, .ofNat 0)))], [], [(11, (0, .ofNat 2), .inr (false, (3, .ofNat 0))), (11, (0, .ofNat 11), .inl 16), (45, (0, .ofNat 0), .inl 46), (45, (0, .ofNat 1), .inr (false, (3, .ofNat 0))), (45, (0, .ofNat 2), .inr (false, (4, .ofNat 0))), (46, (0, .ofNat 0), .inr (true, (5, .ofNat 0)))], []), ((0, 2, .ofNat 12), (0, 0, .ofNat 4096), (0, 0, .ofNat 0)), 0, 0), 
  (56, (8, [(1, .ofNat 0, .ofNat 51), (2, .ofNat 0, .ofNat 11), (3, .ofNat 1, .ofNat 4095), (4, .ofNat 0, .ofNat 4095), (5, .ofNat 1, .ofNat 12), (6, .ofNat 1, .ofNat 4096), (7, .negSucc 9223372036854775807, .ofNat 9223372036854775807)], [(2, 5, .negSucc 0)], [(0, .inl 45), (1, .inl 11), (2, .inr (false, (1, .ofNat 0))), (3, .inr (false, (2, .ofNat 0))), (4, .inr (false, (3, .ofNat 0))), (5, .inr (false, (4, .ofNat 0)))], [], [(11, (0, .ofNat 2), .inr (false, (5, .ofNat 0))), (11, (0, .ofNat 11), .inl 16), (45, (0, .ofNat 0), .inl 46), (45, (0, .ofNat 1), .inr (false, (5, .ofNat 0))), (45, (0, .ofNat 2), .inr (false, (6, .ofNat 0))), (46, (0, .ofNat 0), .inr (true, (7, .ofNat 0)))], []), ((0, 2, .ofNat 12), (0, 4, .ofNat 4095), (0, 0, .ofNat 0)), 0, 0)]
set_option maxRecDepth 1000000 in
theorem cv1471 {gh : sxGh} (hg : sxGd sxKw gh) : sxCtV sxKw gh ct1471 := sxMeB_ok (cts := []) (cuts := cu1471) (sp := []) 126 (by decide +kernel) hg (by decide) (by decide) (fun _ h => absurd h List.not_mem_nil)
/-- LotBeliefs.Subsets.proving -/
def ct1472 : sxCt := (62, 1, (2, [(1, .negSucc 9223372036854775807, .ofNat 9223372036854775807)], [], [(0, .inl 45), (1, .inr (true, (1, .ofNat 0)))], [], [], []), [], [
  (3, [(1, .negSucc 9223372036854775807, .ofNat 9223372036854775807), (2, .negSucc 0, .ofNat 4095)], [], [], [.inr (false, (2, .ofNat 0))], [], [])], [], 0, 0)
def cu1472 : List sxCu := [
  (9, (5, [(1, .negSucc 9223372036854775807, .ofNat 9223372036854775807), (2, .negSucc 0, .ofNat 4095), (3, .ofNat 0, .ofNat 63), (4, .ofNat 0, .ofNat 4096)], [(2, 4, .negSucc 0)], [(0, .inl 45), (1, .inr (true, (1, .ofNat 0))), (3, .inr (false, (2, .ofNat 0))), (4, .inr (false, (3, .ofNat 0))), (5, .inr (false, (4, .ofNat 0)))], [], [], []), ((0, 4, .ofNat 4096), (0, 0, .ofNat 0), (0, 0, .ofNat 0)), 0, 0)]
set_option maxRecDepth 1000000 in
theorem cv1472 {gh : sxGh} (hg : sxGd sxKw gh) : sxCtV sxKw gh ct1472 := sxMeB_ok (cts := [ct84]) (cuts := cu1472) (sp := []) 170 (by decide +kernel) hg (by decide) (by decide) (List.forall_mem_cons.mpr ⟨cv84 hg, (fun _ h => absurd h List.not_mem_nil)⟩)
/-- LotBeliefsModel.proof -/
def ct1473 : sxCt := (302, 2, (2, [(1, .ofNat 0, .ofNat 51)], [], [(0, .inl 78), (1, .inr (false, (1, .ofNat 0)))], [], [], []), [(78, 1)], [
  (3, [(1, .ofNat 0, .ofNat 51), (2, .negSucc 0, .ofNat 4095)], [], [], [.inr (false, (2, .ofNat 0))], [(78, (0, .ofNat 0), .inr (false, (0, .ofNat 0)))], [])], [], 0, 0)
def cu1473 : List sxCu := [
  (32, (4, [(1, .ofNat 0, .ofNat 51), (2, .negSucc 0, .ofNat 4095), (3, .ofNat 0, .ofNat 4096)], [(2, 3, .negSucc 0)], [(0, .inl 78), (1, .inr (false, (1, .ofNat 0))), (2, .inr (false, (2, .ofNat 0))), (3, .inr (false, (3, .ofNat 0)))], [], [(78, (0, .ofNat 0), .inr (false, (0, .ofNat 0)))], []), ((0, 3, .ofNat 4096), (0, 0, .ofNat 0), (0, 0, .ofNat 0)), 0, 0)]
set_option maxRecDepth 1000000 in
theorem cv1473 {gh : sxGh} (hg : sxGd sxKw gh) : sxCtV sxKw gh ct1473 := sxMeB_ok (cts := [ct88, ct1146]) (cuts := cu1473) (sp := []) 194 (by decide +kernel) hg (by decide) (by decide) (List.forall_mem_cons.mpr ⟨cv88 hg, (List.forall_mem_cons.mpr ⟨cv1146 hg, (fun _ h => absurd h List.not_mem_nil)⟩)⟩)
/-- LotBeliefs.Subsets.fill -/
def ct1474 : sxCt := (58, 0, (2, [(1, .ofNat 0, .ofNat 51)], [], [(0, .inl 45), (1, .inl 3), (2, .inr (false, (1, .ofNat 0)))], [], [], []), [(45, 2), (45, 3), (46, 0)], [
  (5, [(1, .ofNat 0, .ofNat 51), (2, .ofNat 0, .ofNat 12), (3, .ofNat 1, .ofNat 4096), (4, .negSucc 9223372036854775807, .ofNat 9223372036854775807)], [], [], [], [(45, (0, .ofNat 1), .inr (false, (2, .ofNat 0))), (45, (0, .ofNat 2), .inr (false, (3, .ofNat 0))), (46, (0, .ofNat 0), .inr (true, (4, .ofNat 0)))], [])], [], 0, 0)
def cu1474 : List sxCu := [
  (40, (6, [(1, .ofNat 0, .ofNat 51), (2, .ofNat 0, .ofNat 12), (3, .ofNat 0, .ofNat 12), (4, .ofNat 1, .ofNat 4096), (5, .negSucc 9223372036854775807, .ofNat 9223372036854775807)], [], [(0, .inl 45), (1, .inl 3), (2, .inr (false, (1, .ofNat 0))), (3, .inr (false, (2, .ofNat 0)))], [], [(3, (0, .ofNat 2), .inr (false, (3, .ofNat 0))), (3, (0, .ofNat 11), .inl 8), (45, (0, .ofNat 0), .inl 46), (45, (0, .ofNat 1), .inr (false, (3, .ofNat 0))), (45, (0, .ofNat 2), .inr (false, (4, .ofNat 0))), (46, (0, .ofNat 0), .inr (true, (5, .ofNat 0)))], []), ((0, 2, .ofNat 12), (0, 0, .ofNat 4096), (0, 0, .ofNat 0)), 0, 0), 
  (56, (8, [(1, .ofNat 0, .ofNat 51), (2, .ofNat 0, .ofNat 11), (3, .ofNat 1, .ofNat 4095), (4, .ofNat 0, .ofNat 4095), (5, .ofNat 1, .ofNat 12), (6, .ofNat 1, .ofNat 4096), (7, .negSucc 9223372036854775807, .ofNat 9223372036854775807)], [(2, 5, .negSucc 0)], [(0, .inl 45), (1, .inl 3), (2, .inr (false, (1, .ofNat 0))), (3, .inr (false, (2, .ofNat 0))), (4, .inr (false, (3, .ofNat 0))), (5, .inr (false, (4, .ofNat 0)))], [], [(3, (0, .ofNat 2), .inr (false, (5, .ofNat 0))), (3, (0, .ofNat 11), .inl 8), (45, (0, .ofNat 0), .inl 46), (45, (0, .ofNat 1), .inr (false, (5, .ofNat 0))), (45, (0, .ofNat 2), .inr (false, (6, .ofNat 0))), (46, (0, .ofNat 0), .inr (true, (7, .ofNat 0)))], []), ((0, 2, .ofNat 12), (0, 4, .ofNat 4095), (0, 0, .ofNat 0)), 0, 0)]
set_option maxRecDepth 1000000 in
theorem cv1474 {gh : sxGh} (hg : sxGd sxKw gh) : sxCtV sxKw gh ct1474 := sxMeB_ok (cts := []) (cuts := cu1474) (sp := []) 126 (by decide +kernel) hg (by decide) (by decide) (fun _ h => absurd h List.not_mem_nil)
/-- LotBeliefsModel.isWhole -/
def ct1500 : sxCt := (299, 1, (3, [(1, .ofNat 0, .ofNat 4095), (2, .ofNat 0, .ofNat 51)], [], [(0, .inl 78), (1, .inr (false, (1, .ofNat 0))), (2, .inr (false, (2, .ofNat 0)))], [], [], []), [], [
  (3, [(1, .ofNat 0, .ofNat 4095), (2, .ofNat 0, .ofNat 51)], [], [], [.inr (false, (0, .ofNat 0))], [], []), 
  (3, [(1, .ofNat 0, .ofNat 4095), (2, .ofNat 0, .ofNat 51)], [], [], [.inr (false, (0, .ofNat 1))], [], [])], [], 0, 0)
def cu1500 : List sxCu := [
  (15, (4, [(1, .ofNat 0, .ofNat 4095), (2, .ofNat 0, .ofNat 51), (3, .ofNat 0, .ofNat 12)], [], [(0, .inl 78), (1, .inr (false, (1, .ofNat 0))), (2, .inr (false, (2, .ofNat 0))), (3, .inr (false, (3, .ofNat 0)))], [], [], []), ((0, 3, .ofNat 12), (0, 0, .ofNat 0), (0, 0, .ofNat 0)), 0, 0)]
set_option maxRecDepth 1000000 in
theorem cv1500 {gh : sxGh} (hg : sxGd sxKw gh) : sxCtV sxKw gh ct1500 := sxMeB_ok (cts := [ct1146]) (cuts := cu1500) (sp := []) 112 (by decide +kernel) hg (by decide) (by decide) (List.forall_mem_cons.mpr ⟨cv1146 hg, (fun _ h => absurd h List.not_mem_nil)⟩)
/-- LotBeliefsModel.whole -/
def ct1501 : sxCt := (301, 2, (3, [(1, .negSucc 2147483647, .ofNat 2147483647), (2, .negSucc 2147483647, .ofNat 2147483647)], [], [(0, .inl 78), (1, .inr (false, (1, .ofNat 0))), (2, .inr (false, (2, .ofNat 0)))], [], [], []), [(78, 1), (80, 0)], [
  (5, [(1, .negSucc 2147483647, .ofNat 2147483647), (2, .negSucc 2147483647, .ofNat 2147483647), (3, .negSucc 0, .ofNat 4095), (4, .ofNat 0, .ofNat 1)], [(4, 3, .ofNat 1)], [], [.inr (false, (3, .ofNat 0))], [(78, (0, .ofNat 0), .inr (false, (4, .ofNat 0)))], [])], [], 0, 0)
def cu1501 : List sxCu := [
  (33, (5, [(1, .ofNat 0, .ofNat 51), (2, .negSucc 2147483647, .ofNat 2147483647), (3, .ofNat 0, .ofNat 4096), (4, .ofNat 0, .ofNat 4096)], [(3, 4, .ofNat 0)], [(0, .inl 78), (1, .inr (false, (1, .ofNat 0))), (2, .inr (false, (2, .ofNat 0))), (3, .inr (false, (3, .ofNat 0))), (4, .inr (false, (4, .ofNat 0)))], [], [(78, (0, .ofNat 0), .inr (false, (0, .ofNat 0)))], []), ((0, 4, .ofNat 4096), (0, 0, .ofNat 0), (0, 0, .ofNat 0)), 0, 0)]
set_option maxRecDepth 1000000 in
theorem cv1501 {gh : sxGh} (hg : sxGd sxKw gh) : sxCtV sxKw gh ct1501 := sxMeB_ok (cts := [ct1500]) (cuts := cu1501) (sp := []) 193 (by decide +kernel) hg (by decide) (by decide) (List.forall_mem_cons.mpr ⟨cv1500 hg, (fun _ h => absurd h List.not_mem_nil)⟩)
/-- LotBeliefs.Subsets.isWhole -/
def ct1527 : sxCt := (65, 0, (2, [(1, .ofNat 0, .ofNat 4095)], [], [(0, .inl 45), (1, .inr (false, (1, .ofNat 0)))], [], [], []), [], [
  (2, [(1, .ofNat 0, .ofNat 4095)], [], [], [.inr (false, (0, .ofNat 0))], [], []), 
  (2, [(1, .ofNat 0, .ofNat 4095)], [], [], [.inr (false, (0, .ofNat 1))], [], [])], [], 0, 0)
def cu1527 : List sxCu := [
  (15, (3, [(1, .ofNat 0, .ofNat 4095), (2, .ofNat 0, .ofNat 12)], [], [(0, .inl 45), (1, .inr (false, (1, .ofNat 0))), (2, .inr (false, (2, .ofNat 0)))], [], [(45, (0, .ofNat 0), .inl 46)], []), ((0, 2, .ofNat 12), (0, 0, .ofNat 0), (0, 0, .ofNat 0)), 0, 0)]
set_option maxRecDepth 1000000 in
theorem cv1527 {gh : sxGh} (hg : sxGd sxKw gh) : sxCtV sxKw gh ct1527 := sxMeB_ok (cts := []) (cuts := cu1527) (sp := []) 112 (by decide +kernel) hg (by decide) (by decide) (fun _ h => absurd h List.not_mem_nil)
/-- LotBeliefs.Subsets.wholeAt -/
def ct1528 : sxCt := (64, 1, (2, [(1, .negSucc 2147483647, .ofNat 2147483647)], [], [(0, .inl 45), (1, .inr (false, (1, .ofNat 0)))], [], [], []), [], [
  (3, [(1, .negSucc 2147483647, .ofNat 2147483647), (2, .negSucc 0, .ofNat 4095)], [], [], [.inr (false, (2, .ofNat 0))], [], [])], [], 0, 0)
def cu1528 : List sxCu := [
  (4, (4, [(1, .negSucc 2147483647, .ofNat 2147483647), (2, .ofNat 0, .ofNat 4096), (3, .ofNat 0, .ofNat 4096)], [(2, 3, .ofNat 0)], [(0, .inl 45), (1, .inr (false, (1, .ofNat 0))), (2, .inr (false, (2, .ofNat 0))), (3, .inr (false, (3, .ofNat 0)))], [], [], []), ((0, 3, .ofNat 4096), (0, 0, .ofNat 0), (0, 0, .ofNat 0)), 0, 0)]
set_option maxRecDepth 1000000 in
theorem cv1528 {gh : sxGh} (hg : sxGd sxKw gh) : sxCtV sxKw gh ct1528 := sxMeB_ok (cts := [ct1527]) (cuts := cu1528) (sp := []) 86 (by decide +kernel) hg (by decide) (by decide) (List.forall_mem_cons.mpr ⟨cv1527 hg, (fun _ h => absurd h List.not_mem_nil)⟩)
/-- LotBeliefsModel.whole -/
def ct1529 : sxCt := (301, 2, (3, [(1, .ofNat 0, .ofNat 51), (2, .negSucc 2147483647, .ofNat 2147483647)], [], [(0, .inl 78), (1, .inr (false, (1, .ofNat 0))), (2, .inr (false, (2, .ofNat 0)))], [], [], []), [(78, 1)], [
  (4, [(1, .ofNat 0, .ofNat 51), (2, .negSucc 2147483647, .ofNat 2147483647), (3, .negSucc 0, .ofNat 4095)], [], [], [.inr (false, (3, .ofNat 0))], [(78, (0, .ofNat 0), .inr (false, (0, .ofNat 0)))], [])], [], 0, 0)
def cu1529 : List sxCu := [
  (33, (5, [(1, .ofNat 0, .ofNat 51), (2, .negSucc 2147483647, .ofNat 2147483647), (3, .ofNat 0, .ofNat 4096), (4, .ofNat 0, .ofNat 4096)], [(3, 4, .ofNat 0)], [(0, .inl 78), (1, .inr (false, (1, .ofNat 0))), (2, .inr (false, (2, .ofNat 0))), (3, .inr (false, (3, .ofNat 0))), (4, .inr (false, (4, .ofNat 0)))], [], [(78, (0, .ofNat 0), .inr (false, (0, .ofNat 0)))], []), ((0, 4, .ofNat 4096), (0, 0, .ofNat 0), (0, 0, .ofNat 0)), 0, 0)]
set_option maxRecDepth 1000000 in
theorem cv1529 {gh : sxGh} (hg : sxGd sxKw gh) : sxCtV sxKw gh ct1529 := sxMeB_ok (cts := [ct1500]) (cuts := cu1529) (sp := []) 125 (by decide +kernel) hg (by decide) (by decide) (List.forall_mem_cons.mpr ⟨cv1500 hg, (fun _ h => absurd h List.not_mem_nil)⟩)
/-- LotBeliefs.Subsets.core -/
def ct1530 : sxCt := (61, 1, (1, [], [], [(0, .inl 45)], [], [], []), [], [
  (2, [(1, .negSucc 0, .ofNat 4095)], [], [], [.inr (false, (1, .ofNat 0))], [], [])], [], 0, 0)
def cu1530 : List sxCu := [
  (7, (4, [(1, .negSucc 0, .ofNat 4095), (2, .ofNat 0, .ofNat 63), (3, .ofNat 0, .ofNat 4096)], [(1, 3, .negSucc 0)], [(0, .inl 45), (1, .inr (false, (1, .ofNat 0))), (2, .inr (false, (2, .ofNat 0))), (3, .inr (false, (3, .ofNat 0)))], [], [], []), ((0, 3, .ofNat 4096), (0, 0, .ofNat 0), (0, 0, .ofNat 0)), 0, 0)]
set_option maxRecDepth 1000000 in
theorem cv1530 {gh : sxGh} (hg : sxGd sxKw gh) : sxCtV sxKw gh ct1530 := sxMeB_ok (cts := [ct84]) (cuts := cu1530) (sp := []) 100 (by decide +kernel) hg (by decide) (by decide) (List.forall_mem_cons.mpr ⟨cv84 hg, (fun _ h => absurd h List.not_mem_nil)⟩)
/-- LotBeliefs.Subsets.wholes -/
def ct1531 : sxCt := (63, 1, (1, [], [], [(0, .inl 45)], [], [], []), [], [
  (2, [(1, .ofNat 0, .ofNat 4096)], [], [], [.inr (false, (1, .ofNat 0))], [], [])], [], 0, 0)
def cu1531 : List sxCu := [
  (4, (3, [(1, .ofNat 0, .ofNat 4096), (2, .ofNat 0, .ofNat 4096)], [(1, 2, .ofNat 0)], [(0, .inl 45), (1, .inr (false, (1, .ofNat 0))), (2, .inr (false, (2, .ofNat 0)))], [], [], []), ((0, 2, .ofNat 4096), (0, 0, .ofNat 0), (0, 0, .ofNat 0)), 0, 0)]
set_option maxRecDepth 1000000 in
theorem cv1531 {gh : sxGh} (hg : sxGd sxKw gh) : sxCtV sxKw gh ct1531 := sxMeB_ok (cts := [ct1527]) (cuts := cu1531) (sp := []) 81 (by decide +kernel) hg (by decide) (by decide) (List.forall_mem_cons.mpr ⟨cv1527 hg, (fun _ h => absurd h List.not_mem_nil)⟩)
/-- LotBeliefs.Subsets.greatest -/
def ct1532 : sxCt := (60, 1, (1, [], [], [(0, .inl 45)], [], [], []), [], [
  (2, [(1, .negSucc 0, .ofNat 4095)], [], [], [.inr (false, (1, .ofNat 0))], [], [])], [], 0, 0)
def cu1532 : List sxCu := [
  (6, (4, [(1, .negSucc 0, .ofNat 4095), (2, .negSucc 0, .ofNat 63), (3, .ofNat 0, .ofNat 4096)], [(1, 3, .negSucc 0)], [(0, .inl 45), (1, .inr (false, (1, .ofNat 0))), (2, .inr (false, (2, .ofNat 0))), (3, .inr (false, (3, .ofNat 0)))], [], [], []), ((0, 3, .ofNat 4096), (0, 0, .ofNat 0), (0, 0, .ofNat 0)), 0, 0)]
set_option maxRecDepth 1000000 in
theorem cv1532 {gh : sxGh} (hg : sxGd sxKw gh) : sxCtV sxKw gh ct1532 := sxMeB_ok (cts := [ct84]) (cuts := cu1532) (sp := []) 113 (by decide +kernel) hg (by decide) (by decide) (List.forall_mem_cons.mpr ⟨cv84 hg, (fun _ h => absurd h List.not_mem_nil)⟩)
/-- LotBeliefs.Subsets.fitting -/
def ct1533 : sxCt := (59, 0, (1, [], [], [(0, .inl 45)], [], [], []), [], [
  (2, [(1, .ofNat 0, .ofNat 4096)], [], [], [.inr (false, (1, .ofNat 0))], [], [])], [], 0, 0)
def cu1533 : List sxCu := [
  (4, (3, [(1, .ofNat 0, .ofNat 4096), (2, .ofNat 0, .ofNat 4096)], [(1, 2, .ofNat 0)], [(0, .inl 45), (1, .inr (false, (1, .ofNat 0))), (2, .inr (false, (2, .ofNat 0)))], [], [], []), ((0, 2, .ofNat 4096), (0, 0, .ofNat 0), (0, 0, .ofNat 0)), 0, 0)]
set_option maxRecDepth 1000000 in
theorem cv1533 {gh : sxGh} (hg : sxGd sxKw gh) : sxCtV sxKw gh ct1533 := sxMeB_ok (cts := []) (cuts := cu1533) (sp := []) 87 (by decide +kernel) hg (by decide) (by decide) (fun _ h => absurd h List.not_mem_nil)
/-- LotBeliefs.sets -/
def ct1534 : sxCt := (138, 3, (3, [(1, .negSucc 2147483647, .ofNat 2147483647), (2, .negSucc 2147483647, .ofNat 2147483647)], [], [(0, .inl 0), (1, .inr (false, (1, .ofNat 0))), (2, .inr (false, (2, .ofNat 0)))], [], [], []), [(30, 0), (45, 2), (45, 3), (46, 0)], [
  (7, [(1, .ofNat 0, .ofNat 51), (2, .ofNat 0, .ofNat 3), (3, .negSucc 0, .ofNat 4096), (4, .ofNat 0, .ofNat 12), (5, .ofNat 1, .ofNat 4096), (6, .negSucc 9223372036854775807, .ofNat 9223372036854775807)], [], [], [.inr (false, (3, .ofNat 0))], [(45, (0, .ofNat 1), .inr (false, (4, .ofNat 0))), (45, (0, .ofNat 2), .inr (false, (5, .ofNat 0))), (46, (0, .ofNat 0), .inr (true, (6, .ofNat 0)))], [])], [
  (1, (4, [(1, .negSucc 2147483647, .ofNat 2147483647), (2, .negSucc 2147483647, .ofNat 2147483647), (3, .negSucc 2147483647, .ofNat 2147483647)], [], [], [], [(30, (0, .ofNat 1), .inr (false, (3, .ofNat 0)))], []))], 1, 6)
def cu1534 : List sxCu := []
set_option maxRecDepth 1000000 in
theorem cv1534 {gh : sxGh} (hg : sxGd sxKw gh) : sxCtV sxKw gh ct1534 := sxMeB_ok (cts := [ct1474, ct1471, ct1533, ct1532, ct1530, ct1531]) (cuts := cu1534) (sp := []) 182 (by decide +kernel) hg (by decide) (by decide) (List.forall_mem_cons.mpr ⟨cv1474 hg, (List.forall_mem_cons.mpr ⟨cv1471 hg, (List.forall_mem_cons.mpr ⟨cv1533 hg, (List.forall_mem_cons.mpr ⟨cv1532 hg, (List.forall_mem_cons.mpr ⟨cv1530 hg, (List.forall_mem_cons.mpr ⟨cv1531 hg, (fun _ h => absurd h List.not_mem_nil)⟩)⟩)⟩)⟩)⟩)⟩)
/-- LotBeliefsModel.sets -/
def ct1537 : sxCt := (300, 2, (3, [(1, .negSucc 2147483647, .ofNat 2147483647), (2, .negSucc 2147483647, .ofNat 2147483647)], [], [(0, .inl 78), (1, .inr (false, (1, .ofNat 0))), (2, .inr (false, (2, .ofNat 0)))], [], [], []), [(78, 1), (80, 0)], [
  (5, [(1, .negSucc 2147483647, .ofNat 2147483647), (2, .negSucc 2147483647, .ofNat 2147483647), (3, .negSucc 0, .ofNat 4096), (4, .ofNat 0, .ofNat 1)], [(4, 3, .ofNat 1)], [], [.inr (false, (3, .ofNat 0))], [(78, (0, .ofNat 0), .inr (false, (4, .ofNat 0)))], [])], [], 0, 0)
def cu1537 : List sxCu := [
  (51, (8, [(1, .ofNat 0, .ofNat 51), (2, .ofNat 0, .ofNat 3), (3, .ofNat 0, .ofNat 4096), (4, .negSucc 0, .ofNat 4095), (5, .ofNat 0, .ofNat 4096), (6, .negSucc 0, .ofNat 4095), (7, .ofNat 0, .ofNat 4096)], [(3, 7, .ofNat 0), (4, 7, .negSucc 0), (5, 3, .ofNat 0), (5, 7, .ofNat 0), (6, 7, .negSucc 0)], [(0, .inl 78), (1, .inr (false, (1, .ofNat 0))), (2, .inr (false, (2, .ofNat 0))), (3, .inr (false, (3, .ofNat 0))), (4, .inr (false, (4, .ofNat 0))), (5, .inr (false, (5, .ofNat 0))), (6, .inr (false, (6, .ofNat 0))), (7, .inr (false, (7, .ofNat 0)))], [], [(78, (0, .ofNat 0), .inr (false, (0, .ofNat 0)))], []), ((0, 7, .ofNat 4096), (0, 0, .ofNat 0), (0, 0, .ofNat 0)), 0, 0)]
set_option maxRecDepth 1000000 in
theorem cv1537 {gh : sxGh} (hg : sxGd sxKw gh) : sxCtV sxKw gh ct1537 := sxMeB_ok (cts := [ct88, ct1146, ct1500]) (cuts := cu1537) (sp := []) 560 (by decide +kernel) hg (by decide) (by decide) (List.forall_mem_cons.mpr ⟨cv88 hg, (List.forall_mem_cons.mpr ⟨cv1146 hg, (List.forall_mem_cons.mpr ⟨cv1500 hg, (fun _ h => absurd h List.not_mem_nil)⟩)⟩)⟩)
/-- LotBeliefsModel.sets -/
def ct1538 : sxCt := (300, 2, (3, [(1, .ofNat 0, .ofNat 51), (2, .ofNat 0, .ofNat 3)], [], [(0, .inl 78), (1, .inr (false, (1, .ofNat 0))), (2, .inr (false, (2, .ofNat 0)))], [], [], []), [(78, 1)], [
  (4, [(1, .ofNat 0, .ofNat 51), (2, .ofNat 0, .ofNat 3), (3, .negSucc 0, .ofNat 4096)], [], [], [.inr (false, (3, .ofNat 0))], [(78, (0, .ofNat 0), .inr (false, (0, .ofNat 0)))], [])], [], 0, 0)
def cu1538 : List sxCu := [
  (51, (8, [(1, .ofNat 0, .ofNat 51), (2, .ofNat 0, .ofNat 3), (3, .ofNat 0, .ofNat 4096), (4, .negSucc 0, .ofNat 4095), (5, .ofNat 0, .ofNat 4096), (6, .negSucc 0, .ofNat 4095), (7, .ofNat 0, .ofNat 4096)], [(3, 7, .ofNat 0), (4, 7, .negSucc 0), (5, 3, .ofNat 0), (5, 7, .ofNat 0), (6, 7, .negSucc 0)], [(0, .inl 78), (1, .inr (false, (1, .ofNat 0))), (2, .inr (false, (2, .ofNat 0))), (3, .inr (false, (3, .ofNat 0))), (4, .inr (false, (4, .ofNat 0))), (5, .inr (false, (5, .ofNat 0))), (6, .inr (false, (6, .ofNat 0))), (7, .inr (false, (7, .ofNat 0)))], [], [(78, (0, .ofNat 0), .inr (false, (0, .ofNat 0)))], []), ((0, 7, .ofNat 4096), (0, 0, .ofNat 0), (0, 0, .ofNat 0)), 0, 0)]
set_option maxRecDepth 1000000 in
theorem cv1538 {gh : sxGh} (hg : sxGd sxKw gh) : sxCtV sxKw gh ct1538 := sxMeB_ok (cts := [ct88, ct1146, ct1500]) (cuts := cu1538) (sp := []) 426 (by decide +kernel) hg (by decide) (by decide) (List.forall_mem_cons.mpr ⟨cv88 hg, (List.forall_mem_cons.mpr ⟨cv1146 hg, (List.forall_mem_cons.mpr ⟨cv1500 hg, (fun _ h => absurd h List.not_mem_nil)⟩)⟩)⟩)
/-- LotBeliefs.Survey.bestEnd -/
def ct1539 : sxCt := (78, 1, (2, [(1, .ofNat 0, .ofNat 4095)], [], [(0, .inl 74), (1, .inr (false, (1, .ofNat 0)))], [], [], []), [], [
  (3, [(1, .ofNat 0, .ofNat 4095), (2, .ofNat 0, .ofNat 127)], [], [], [.inr (false, (2, .ofNat 0))], [], [])], [], 0, 0)
def cu1539 : List sxCu := [
  (7, (5, [(1, .ofNat 0, .ofNat 4095), (2, .ofNat 0, .ofNat 127), (3, .negSucc 0, .ofNat 63), (4, .ofNat 0, .ofNat 128)], [(2, 4, .ofNat 0)], [(0, .inl 74), (1, .inr (false, (1, .ofNat 0))), (2, .inr (false, (2, .ofNat 0))), (3, .inr (false, (3, .ofNat 0))), (4, .inr (false, (4, .ofNat 0)))], [], [], []), ((0, 4, .ofNat 128), (0, 0, .ofNat 0), (0, 0, .ofNat 0)), 0, 0)]
set_option maxRecDepth 1000000 in
theorem cv1539 {gh : sxGh} (hg : sxGd sxKw gh) : sxCtV sxKw gh ct1539 := sxMeB_ok (cts := [ct74]) (cuts := cu1539) (sp := []) 122 (by decide +kernel) hg (by decide) (by decide) (List.forall_mem_cons.mpr ⟨cv74 hg, (fun _ h => absurd h List.not_mem_nil)⟩)
/-- LotBeliefs.takeOrder -/
def ct1540 : sxCt := (182, 1, (2, [(1, .negSucc 9223372036854775807, .ofNat 9223372036854775807)], [], [(0, .inl 0), (1, .inr (true, (1, .ofNat 0)))], [], [], []), [(28, 0)], [
  (2, [(1, .negSucc 9223372036854775807, .ofNat 9223372036854775807)], [], [], [], [], [])], [], 0, 0)
def cu1540 : List sxCu := [
  (2, (3, [(1, .negSucc 9223372036854775807, .ofNat 9223372036854775807), (2, .ofNat 0, .ofNat 12)], [], [(0, .inl 0), (1, .inr (true, (1, .ofNat 0))), (3, .inr (false, (2, .ofNat 0)))], [], [], []), ((0, 2, .ofNat 12), (0, 0, .ofNat 0), (0, 0, .ofNat 0)), 0, 0)]
set_option maxRecDepth 1000000 in
theorem cv1540 {gh : sxGh} (hg : sxGd sxKw gh) : sxCtV sxKw gh ct1540 := sxMeB_ok (cts := []) (cuts := cu1540) (sp := []) 123 (by decide +kernel) hg (by decide) (by decide) (fun _ h => absurd h List.not_mem_nil)
/-- LotBeliefs.Survey.bestEnd -/
def ct1541 : sxCt := (78, 1, (2, [(1, .ofNat 0, .ofNat 4095)], [], [(0, .inl 70), (1, .inr (false, (1, .ofNat 0)))], [], [], []), [], [
  (3, [(1, .ofNat 0, .ofNat 4095), (2, .ofNat 0, .ofNat 127)], [], [], [.inr (false, (2, .ofNat 0))], [], [])], [], 0, 0)
def cu1541 : List sxCu := [
  (7, (5, [(1, .ofNat 0, .ofNat 4095), (2, .ofNat 0, .ofNat 127), (3, .negSucc 0, .ofNat 63), (4, .ofNat 0, .ofNat 128)], [(2, 4, .ofNat 0)], [(0, .inl 70), (1, .inr (false, (1, .ofNat 0))), (2, .inr (false, (2, .ofNat 0))), (3, .inr (false, (3, .ofNat 0))), (4, .inr (false, (4, .ofNat 0)))], [], [], []), ((0, 4, .ofNat 128), (0, 0, .ofNat 0), (0, 0, .ofNat 0)), 0, 0)]
set_option maxRecDepth 1000000 in
theorem cv1541 {gh : sxGh} (hg : sxGd sxKw gh) : sxCtV sxKw gh ct1541 := sxMeB_ok (cts := [ct74]) (cuts := cu1541) (sp := []) 122 (by decide +kernel) hg (by decide) (by decide) (List.forall_mem_cons.mpr ⟨cv74 hg, (fun _ h => absurd h List.not_mem_nil)⟩)
/-- LotBeliefs.Survey.bestEnd -/
def ct1542 : sxCt := (78, 1, (2, [(1, .ofNat 0, .ofNat 4095)], [], [(0, .inl 66), (1, .inr (false, (1, .ofNat 0)))], [], [], []), [], [
  (3, [(1, .ofNat 0, .ofNat 4095), (2, .ofNat 0, .ofNat 127)], [], [], [.inr (false, (2, .ofNat 0))], [], [])], [], 0, 0)
def cu1542 : List sxCu := [
  (7, (5, [(1, .ofNat 0, .ofNat 4095), (2, .ofNat 0, .ofNat 127), (3, .negSucc 0, .ofNat 63), (4, .ofNat 0, .ofNat 128)], [(2, 4, .ofNat 0)], [(0, .inl 66), (1, .inr (false, (1, .ofNat 0))), (2, .inr (false, (2, .ofNat 0))), (3, .inr (false, (3, .ofNat 0))), (4, .inr (false, (4, .ofNat 0)))], [], [], []), ((0, 4, .ofNat 128), (0, 0, .ofNat 0), (0, 0, .ofNat 0)), 0, 0)]
set_option maxRecDepth 1000000 in
theorem cv1542 {gh : sxGh} (hg : sxGd sxKw gh) : sxCtV sxKw gh ct1542 := sxMeB_ok (cts := [ct74]) (cuts := cu1542) (sp := []) 122 (by decide +kernel) hg (by decide) (by decide) (List.forall_mem_cons.mpr ⟨cv74 hg, (fun _ h => absurd h List.not_mem_nil)⟩)
/-- LotBeliefs.Survey.bestEnd -/
def ct1543 : sxCt := (78, 1, (2, [(1, .ofNat 0, .ofNat 4095)], [], [(0, .inl 62), (1, .inr (false, (1, .ofNat 0)))], [], [], []), [], [
  (3, [(1, .ofNat 0, .ofNat 4095), (2, .ofNat 0, .ofNat 127)], [], [], [.inr (false, (2, .ofNat 0))], [], [])], [], 0, 0)
def cu1543 : List sxCu := [
  (7, (5, [(1, .ofNat 0, .ofNat 4095), (2, .ofNat 0, .ofNat 127), (3, .negSucc 0, .ofNat 63), (4, .ofNat 0, .ofNat 128)], [(2, 4, .ofNat 0)], [(0, .inl 62), (1, .inr (false, (1, .ofNat 0))), (2, .inr (false, (2, .ofNat 0))), (3, .inr (false, (3, .ofNat 0))), (4, .inr (false, (4, .ofNat 0)))], [], [], []), ((0, 4, .ofNat 128), (0, 0, .ofNat 0), (0, 0, .ofNat 0)), 0, 0)]
set_option maxRecDepth 1000000 in
theorem cv1543 {gh : sxGh} (hg : sxGd sxKw gh) : sxCtV sxKw gh ct1543 := sxMeB_ok (cts := [ct74]) (cuts := cu1543) (sp := []) 122 (by decide +kernel) hg (by decide) (by decide) (List.forall_mem_cons.mpr ⟨cv74 hg, (fun _ h => absurd h List.not_mem_nil)⟩)
/-- LotBeliefs.Survey.bestEnd -/
def ct1544 : sxCt := (78, 1, (2, [(1, .ofNat 0, .ofNat 4095)], [], [(0, .inl 58), (1, .inr (false, (1, .ofNat 0)))], [], [], []), [], [
  (3, [(1, .ofNat 0, .ofNat 4095), (2, .ofNat 0, .ofNat 127)], [], [], [.inr (false, (2, .ofNat 0))], [], [])], [], 0, 0)
def cu1544 : List sxCu := [
  (7, (5, [(1, .ofNat 0, .ofNat 4095), (2, .ofNat 0, .ofNat 127), (3, .negSucc 0, .ofNat 63), (4, .ofNat 0, .ofNat 128)], [(2, 4, .ofNat 0)], [(0, .inl 58), (1, .inr (false, (1, .ofNat 0))), (2, .inr (false, (2, .ofNat 0))), (3, .inr (false, (3, .ofNat 0))), (4, .inr (false, (4, .ofNat 0)))], [], [], []), ((0, 4, .ofNat 128), (0, 0, .ofNat 0), (0, 0, .ofNat 0)), 0, 0)]
set_option maxRecDepth 1000000 in
theorem cv1544 {gh : sxGh} (hg : sxGd sxKw gh) : sxCtV sxKw gh ct1544 := sxMeB_ok (cts := [ct74]) (cuts := cu1544) (sp := []) 122 (by decide +kernel) hg (by decide) (by decide) (List.forall_mem_cons.mpr ⟨cv74 hg, (fun _ h => absurd h List.not_mem_nil)⟩)
/-- LotBeliefs.best -/
def ct1545 : sxCt := (136, 6, (1, [], [], [(0, .inl 0)], [], [], []), [(21, 0), (22, 0), (25, 0), (26, 0), (28, 0), (30, 0), (32, 1), (32, 2), (32, 3), (32, 4), (32, 9), (32, 11), (32, 12), (33, 0), (34, 0), (35, 0), (36, 0), (37, 0), (58, 2), (58, 3), (58, 6), (58, 7), (59, 0), (60, 0), (61, 0), (62, 2), (62, 3), (62, 6), (62, 7), (63, 0), (64, 0), (65, 0), (66, 2), (66, 3), (66, 6), (66, 7), (67, 0), (68, 0), (69, 0), (70, 2), (70, 3), (70, 6), (70, 7), (71, 0), (72, 0), (73, 0), (74, 2), (74, 3), (74, 6), (74, 7), (75, 0), (76, 0), (77, 0)], [
  (2, [(1, .ofNat 0, .ofNat 63)], [], [], [.inr (false, (1, .ofNat 0))], [], [])], [
  (2, (2, [(1, .negSucc 2147483647, .ofNat 2147483647)], [], [], [], [(30, (0, .ofNat 2), .inr (false, (1, .ofNat 0)))], []))], 1, 6)
def cu1545 : List sxCu := []
set_option maxRecDepth 1000000 in
theorem cv1545 {gh : sxGh} (hg : sxGd sxKw gh) : sxCtV sxKw gh ct1545 := sxMeB_ok (cts := [ct260, ct388, ct899, ct900, ct971, ct972, ct1043, ct1044, ct1045, ct1046, ct1047, ct1048, ct1049, ct1050, ct1051, ct1052, ct1053, ct1054, ct935, ct936, ct1007, ct1008, ct1539, ct1541, ct1542, ct1543, ct1544, ct1540, ct74]) (cuts := cu1545) (sp := []) 1078 (by decide +kernel) hg (by decide) (by decide) (List.forall_mem_cons.mpr ⟨cv260 hg, (List.forall_mem_cons.mpr ⟨cv388 hg, (List.forall_mem_cons.mpr ⟨cv899 hg, (List.forall_mem_cons.mpr ⟨cv900 hg, (List.forall_mem_cons.mpr ⟨cv971 hg, (List.forall_mem_cons.mpr ⟨cv972 hg, (List.forall_mem_cons.mpr ⟨cv1043 hg, (List.forall_mem_cons.mpr ⟨cv1044 hg, (List.forall_mem_cons.mpr ⟨cv1045 hg, (List.forall_mem_cons.mpr ⟨cv1046 hg, (List.forall_mem_cons.mpr ⟨cv1047 hg, (List.forall_mem_cons.mpr ⟨cv1048 hg, (List.forall_mem_cons.mpr ⟨cv1049 hg, (List.forall_mem_cons.mpr ⟨cv1050 hg, (List.forall_mem_cons.mpr ⟨cv1051 hg, (List.forall_mem_cons.mpr ⟨cv1052 hg, (List.forall_mem_cons.mpr ⟨cv1053 hg, (List.forall_mem_cons.mpr ⟨cv1054 hg, (List.forall_mem_cons.mpr ⟨cv935 hg, (List.forall_mem_cons.mpr ⟨cv936 hg, (List.forall_mem_cons.mpr ⟨cv1007 hg, (List.forall_mem_cons.mpr ⟨cv1008 hg, (List.forall_mem_cons.mpr ⟨cv1539 hg, (List.forall_mem_cons.mpr ⟨cv1541 hg, (List.forall_mem_cons.mpr ⟨cv1542 hg, (List.forall_mem_cons.mpr ⟨cv1543 hg, (List.forall_mem_cons.mpr ⟨cv1544 hg, (List.forall_mem_cons.mpr ⟨cv1540 hg, (List.forall_mem_cons.mpr ⟨cv74 hg, (fun _ h => absurd h List.not_mem_nil)⟩)⟩)⟩)⟩)⟩)⟩)⟩)⟩)⟩)⟩)⟩)⟩)⟩)⟩)⟩)⟩)⟩)⟩)⟩)⟩)⟩)⟩)⟩)⟩)⟩)⟩)⟩)⟩)⟩)
/-- LotBeliefs.Survey.heldInAll -/
def ct1549 : sxCt := (77, 1, (2, [(1, .ofNat 1, .ofNat 64)], [], [(0, .inl 74), (1, .inr (false, (1, .ofNat 0)))], [], [], []), [], [
  (3, [(1, .ofNat 1, .ofNat 64), (2, .negSucc 2147483647, .ofNat 2147483647)], [], [], [.inr (false, (2, .ofNat 0))], [], [])], [], 0, 0)
def cu1549 : List sxCu := [
  (4, (4, [(1, .ofNat 1, .ofNat 64), (2, .negSucc 2147483647, .ofNat 2147483647), (3, .ofNat 0, .ofNat 128)], [], [(0, .inl 74), (1, .inr (false, (1, .ofNat 0))), (2, .inr (false, (2, .ofNat 0))), (3, .inr (false, (3, .ofNat 0)))], [], [], []), ((0, 3, .ofNat 128), (0, 0, .ofNat 0), (0, 0, .ofNat 0)), 0, 0)]
set_option maxRecDepth 1000000 in
theorem cv1549 {gh : sxGh} (hg : sxGd sxKw gh) : sxCtV sxKw gh ct1549 := sxMeB_ok (cts := [ct72]) (cuts := cu1549) (sp := []) 86 (by decide +kernel) hg (by decide) (by decide) (List.forall_mem_cons.mpr ⟨cv72 hg, (fun _ h => absurd h List.not_mem_nil)⟩)
/-- LotBeliefs.Survey.heldInAll -/
def ct1551 : sxCt := (77, 1, (2, [(1, .ofNat 1, .ofNat 64)], [], [(0, .inl 70), (1, .inr (false, (1, .ofNat 0)))], [], [], []), [], [
  (3, [(1, .ofNat 1, .ofNat 64), (2, .negSucc 2147483647, .ofNat 2147483647)], [], [], [.inr (false, (2, .ofNat 0))], [], [])], [], 0, 0)
def cu1551 : List sxCu := [
  (4, (4, [(1, .ofNat 1, .ofNat 64), (2, .negSucc 2147483647, .ofNat 2147483647), (3, .ofNat 0, .ofNat 128)], [], [(0, .inl 70), (1, .inr (false, (1, .ofNat 0))), (2, .inr (false, (2, .ofNat 0))), (3, .inr (false, (3, .ofNat 0)))], [], [], []), ((0, 3, .ofNat 128), (0, 0, .ofNat 0), (0, 0, .ofNat 0)), 0, 0)]
set_option maxRecDepth 1000000 in
theorem cv1551 {gh : sxGh} (hg : sxGd sxKw gh) : sxCtV sxKw gh ct1551 := sxMeB_ok (cts := [ct72]) (cuts := cu1551) (sp := []) 86 (by decide +kernel) hg (by decide) (by decide) (List.forall_mem_cons.mpr ⟨cv72 hg, (fun _ h => absurd h List.not_mem_nil)⟩)
/-- LotBeliefs.Survey.heldInAll -/
def ct1552 : sxCt := (77, 1, (2, [(1, .ofNat 1, .ofNat 64)], [], [(0, .inl 66), (1, .inr (false, (1, .ofNat 0)))], [], [], []), [], [
  (3, [(1, .ofNat 1, .ofNat 64), (2, .negSucc 2147483647, .ofNat 2147483647)], [], [], [.inr (false, (2, .ofNat 0))], [], [])], [], 0, 0)
def cu1552 : List sxCu := [
  (4, (4, [(1, .ofNat 1, .ofNat 64), (2, .negSucc 2147483647, .ofNat 2147483647), (3, .ofNat 0, .ofNat 128)], [], [(0, .inl 66), (1, .inr (false, (1, .ofNat 0))), (2, .inr (false, (2, .ofNat 0))), (3, .inr (false, (3, .ofNat 0)))], [], [], []), ((0, 3, .ofNat 128), (0, 0, .ofNat 0), (0, 0, .ofNat 0)), 0, 0)]
set_option maxRecDepth 1000000 in
theorem cv1552 {gh : sxGh} (hg : sxGd sxKw gh) : sxCtV sxKw gh ct1552 := sxMeB_ok (cts := [ct72]) (cuts := cu1552) (sp := []) 86 (by decide +kernel) hg (by decide) (by decide) (List.forall_mem_cons.mpr ⟨cv72 hg, (fun _ h => absurd h List.not_mem_nil)⟩)
/-- LotBeliefs.Survey.heldInAll -/
def ct1553 : sxCt := (77, 1, (2, [(1, .ofNat 1, .ofNat 64)], [], [(0, .inl 62), (1, .inr (false, (1, .ofNat 0)))], [], [], []), [], [
  (3, [(1, .ofNat 1, .ofNat 64), (2, .negSucc 2147483647, .ofNat 2147483647)], [], [], [.inr (false, (2, .ofNat 0))], [], [])], [], 0, 0)
def cu1553 : List sxCu := [
  (4, (4, [(1, .ofNat 1, .ofNat 64), (2, .negSucc 2147483647, .ofNat 2147483647), (3, .ofNat 0, .ofNat 128)], [], [(0, .inl 62), (1, .inr (false, (1, .ofNat 0))), (2, .inr (false, (2, .ofNat 0))), (3, .inr (false, (3, .ofNat 0)))], [], [], []), ((0, 3, .ofNat 128), (0, 0, .ofNat 0), (0, 0, .ofNat 0)), 0, 0)]
set_option maxRecDepth 1000000 in
theorem cv1553 {gh : sxGh} (hg : sxGd sxKw gh) : sxCtV sxKw gh ct1553 := sxMeB_ok (cts := [ct72]) (cuts := cu1553) (sp := []) 86 (by decide +kernel) hg (by decide) (by decide) (List.forall_mem_cons.mpr ⟨cv72 hg, (fun _ h => absurd h List.not_mem_nil)⟩)
/-- LotBeliefs.Survey.heldInAll -/
def ct1554 : sxCt := (77, 1, (2, [(1, .ofNat 1, .ofNat 64)], [], [(0, .inl 58), (1, .inr (false, (1, .ofNat 0)))], [], [], []), [], [
  (3, [(1, .ofNat 1, .ofNat 64), (2, .negSucc 2147483647, .ofNat 2147483647)], [], [], [.inr (false, (2, .ofNat 0))], [], [])], [], 0, 0)
def cu1554 : List sxCu := [
  (4, (4, [(1, .ofNat 1, .ofNat 64), (2, .negSucc 2147483647, .ofNat 2147483647), (3, .ofNat 0, .ofNat 128)], [], [(0, .inl 58), (1, .inr (false, (1, .ofNat 0))), (2, .inr (false, (2, .ofNat 0))), (3, .inr (false, (3, .ofNat 0)))], [], [], []), ((0, 3, .ofNat 128), (0, 0, .ofNat 0), (0, 0, .ofNat 0)), 0, 0)]
set_option maxRecDepth 1000000 in
theorem cv1554 {gh : sxGh} (hg : sxGd sxKw gh) : sxCtV sxKw gh ct1554 := sxMeB_ok (cts := [ct72]) (cuts := cu1554) (sp := []) 86 (by decide +kernel) hg (by decide) (by decide) (List.forall_mem_cons.mpr ⟨cv72 hg, (fun _ h => absurd h List.not_mem_nil)⟩)
/-- LotBeliefs.Survey.never -/
def ct1555 : sxCt := (76, 0, (2, [(1, .ofNat 0, .ofNat 7)], [], [(0, .inl 74), (1, .inr (false, (1, .ofNat 0)))], [], [], []), [], [
  (3, [(1, .ofNat 0, .ofNat 7), (2, .ofNat 0, .ofNat 127)], [], [], [.inr (false, (2, .ofNat 0))], [], [])], [], 0, 0)
def cu1555 : List sxCu := [
  (8, (4, [(1, .ofNat 0, .ofNat 7), (2, .ofNat 0, .ofNat 127), (3, .ofNat 0, .ofNat 128)], [], [(0, .inl 74), (1, .inr (false, (1, .ofNat 0))), (2, .inr (false, (2, .ofNat 0))), (3, .inr (false, (3, .ofNat 0)))], [], [], []), ((0, 3, .ofNat 128), (0, 0, .ofNat 0), (0, 0, .ofNat 0)), 0, 0)]
set_option maxRecDepth 1000000 in
theorem cv1555 {gh : sxGh} (hg : sxGd sxKw gh) : sxCtV sxKw gh ct1555 := sxMeB_ok (cts := []) (cuts := cu1555) (sp := []) 90 (by decide +kernel) hg (by decide) (by decide) (fun _ h => absurd h List.not_mem_nil)
/-- LotBeliefs.Survey.always -/
def ct1556 : sxCt := (75, 0, (2, [(1, .ofNat 0, .ofNat 7)], [], [(0, .inl 74), (1, .inr (false, (1, .ofNat 0)))], [], [], []), [], [
  (3, [(1, .ofNat 0, .ofNat 7), (2, .ofNat 0, .ofNat 127)], [], [], [.inr (false, (2, .ofNat 0))], [], [])], [], 0, 0)
def cu1556 : List sxCu := [
  (8, (4, [(1, .ofNat 0, .ofNat 7), (2, .ofNat 0, .ofNat 127), (3, .ofNat 0, .ofNat 128)], [], [(0, .inl 74), (1, .inr (false, (1, .ofNat 0))), (2, .inr (false, (2, .ofNat 0))), (3, .inr (false, (3, .ofNat 0)))], [], [], []), ((0, 3, .ofNat 128), (0, 0, .ofNat 0), (0, 0, .ofNat 0)), 0, 0)]
set_option maxRecDepth 1000000 in
theorem cv1556 {gh : sxGh} (hg : sxGd sxKw gh) : sxCtV sxKw gh ct1556 := sxMeB_ok (cts := []) (cuts := cu1556) (sp := []) 88 (by decide +kernel) hg (by decide) (by decide) (fun _ h => absurd h List.not_mem_nil)
/-- LotBeliefs.Survey.unlike -/
def ct1557 : sxCt := (74, 0, (1, [], [], [(0, .inl 74)], [], [], []), [], [
  (2, [(1, .ofNat 0, .ofNat 128)], [], [], [.inr (false, (1, .ofNat 0))], [], [])], [], 0, 0)
def cu1557 : List sxCu := [
  (4, (3, [(1, .ofNat 0, .ofNat 128), (2, .ofNat 0, .ofNat 128)], [(1, 2, .ofNat 0)], [(0, .inl 74), (1, .inr (false, (1, .ofNat 0))), (2, .inr (false, (2, .ofNat 0)))], [], [], []), ((0, 2, .ofNat 128), (0, 0, .ofNat 0), (0, 0, .ofNat 0)), 0, 0)]
set_option maxRecDepth 1000000 in
theorem cv1557 {gh : sxGh} (hg : sxGd sxKw gh) : sxCtV sxKw gh ct1557 := sxMeB_ok (cts := []) (cuts := cu1557) (sp := []) 81 (by decide +kernel) hg (by decide) (by decide) (fun _ h => absurd h List.not_mem_nil)
/-- LotBeliefs.Survey.never -/
def ct1558 : sxCt := (76, 0, (2, [(1, .ofNat 0, .ofNat 7)], [], [(0, .inl 70), (1, .inr (false, (1, .ofNat 0)))], [], [], []), [], [
  (3, [(1, .ofNat 0, .ofNat 7), (2, .ofNat 0, .ofNat 127)], [], [], [.inr (false, (2, .ofNat 0))], [], [])], [], 0, 0)
def cu1558 : List sxCu := [
  (8, (4, [(1, .ofNat 0, .ofNat 7), (2, .ofNat 0, .ofNat 127), (3, .ofNat 0, .ofNat 128)], [], [(0, .inl 70), (1, .inr (false, (1, .ofNat 0))), (2, .inr (false, (2, .ofNat 0))), (3, .inr (false, (3, .ofNat 0)))], [], [], []), ((0, 3, .ofNat 128), (0, 0, .ofNat 0), (0, 0, .ofNat 0)), 0, 0)]
set_option maxRecDepth 1000000 in
theorem cv1558 {gh : sxGh} (hg : sxGd sxKw gh) : sxCtV sxKw gh ct1558 := sxMeB_ok (cts := []) (cuts := cu1558) (sp := []) 90 (by decide +kernel) hg (by decide) (by decide) (fun _ h => absurd h List.not_mem_nil)
/-- LotBeliefs.Survey.always -/
def ct1559 : sxCt := (75, 0, (2, [(1, .ofNat 0, .ofNat 7)], [], [(0, .inl 70), (1, .inr (false, (1, .ofNat 0)))], [], [], []), [], [
  (3, [(1, .ofNat 0, .ofNat 7), (2, .ofNat 0, .ofNat 127)], [], [], [.inr (false, (2, .ofNat 0))], [], [])], [], 0, 0)
def cu1559 : List sxCu := [
  (8, (4, [(1, .ofNat 0, .ofNat 7), (2, .ofNat 0, .ofNat 127), (3, .ofNat 0, .ofNat 128)], [], [(0, .inl 70), (1, .inr (false, (1, .ofNat 0))), (2, .inr (false, (2, .ofNat 0))), (3, .inr (false, (3, .ofNat 0)))], [], [], []), ((0, 3, .ofNat 128), (0, 0, .ofNat 0), (0, 0, .ofNat 0)), 0, 0)]
set_option maxRecDepth 1000000 in
theorem cv1559 {gh : sxGh} (hg : sxGd sxKw gh) : sxCtV sxKw gh ct1559 := sxMeB_ok (cts := []) (cuts := cu1559) (sp := []) 88 (by decide +kernel) hg (by decide) (by decide) (fun _ h => absurd h List.not_mem_nil)
/-- LotBeliefs.Survey.unlike -/
def ct1560 : sxCt := (74, 0, (1, [], [], [(0, .inl 70)], [], [], []), [], [
  (2, [(1, .ofNat 0, .ofNat 128)], [], [], [.inr (false, (1, .ofNat 0))], [], [])], [], 0, 0)
def cu1560 : List sxCu := [
  (4, (3, [(1, .ofNat 0, .ofNat 128), (2, .ofNat 0, .ofNat 128)], [(1, 2, .ofNat 0)], [(0, .inl 70), (1, .inr (false, (1, .ofNat 0))), (2, .inr (false, (2, .ofNat 0)))], [], [], []), ((0, 2, .ofNat 128), (0, 0, .ofNat 0), (0, 0, .ofNat 0)), 0, 0)]
set_option maxRecDepth 1000000 in
theorem cv1560 {gh : sxGh} (hg : sxGd sxKw gh) : sxCtV sxKw gh ct1560 := sxMeB_ok (cts := []) (cuts := cu1560) (sp := []) 81 (by decide +kernel) hg (by decide) (by decide) (fun _ h => absurd h List.not_mem_nil)
/-- LotBeliefs.Survey.never -/
def ct1561 : sxCt := (76, 0, (2, [(1, .ofNat 0, .ofNat 7)], [], [(0, .inl 66), (1, .inr (false, (1, .ofNat 0)))], [], [], []), [], [
  (3, [(1, .ofNat 0, .ofNat 7), (2, .ofNat 0, .ofNat 127)], [], [], [.inr (false, (2, .ofNat 0))], [], [])], [], 0, 0)
def cu1561 : List sxCu := [
  (8, (4, [(1, .ofNat 0, .ofNat 7), (2, .ofNat 0, .ofNat 127), (3, .ofNat 0, .ofNat 128)], [], [(0, .inl 66), (1, .inr (false, (1, .ofNat 0))), (2, .inr (false, (2, .ofNat 0))), (3, .inr (false, (3, .ofNat 0)))], [], [], []), ((0, 3, .ofNat 128), (0, 0, .ofNat 0), (0, 0, .ofNat 0)), 0, 0)]
set_option maxRecDepth 1000000 in
theorem cv1561 {gh : sxGh} (hg : sxGd sxKw gh) : sxCtV sxKw gh ct1561 := sxMeB_ok (cts := []) (cuts := cu1561) (sp := []) 90 (by decide +kernel) hg (by decide) (by decide) (fun _ h => absurd h List.not_mem_nil)
/-- LotBeliefs.Survey.always -/
def ct1562 : sxCt := (75, 0, (2, [(1, .ofNat 0, .ofNat 7)], [], [(0, .inl 66), (1, .inr (false, (1, .ofNat 0)))], [], [], []), [], [
  (3, [(1, .ofNat 0, .ofNat 7), (2, .ofNat 0, .ofNat 127)], [], [], [.inr (false, (2, .ofNat 0))], [], [])], [], 0, 0)
def cu1562 : List sxCu := [
  (8, (4, [(1, .ofNat 0, .ofNat 7), (2, .ofNat 0, .ofNat 127), (3, .ofNat 0, .ofNat 128)], [], [(0, .inl 66), (1, .inr (false, (1, .ofNat 0))), (2, .inr (false, (2, .ofNat 0))), (3, .inr (false, (3, .ofNat 0)))], [], [], []), ((0, 3, .ofNat 128), (0, 0, .ofNat 0), (0, 0, .ofNat 0)), 0, 0)]
set_option maxRecDepth 1000000 in
theorem cv1562 {gh : sxGh} (hg : sxGd sxKw gh) : sxCtV sxKw gh ct1562 := sxMeB_ok (cts := []) (cuts := cu1562) (sp := []) 88 (by decide +kernel) hg (by decide) (by decide) (fun _ h => absurd h List.not_mem_nil)
/-- LotBeliefs.Survey.unlike -/
def ct1563 : sxCt := (74, 0, (1, [], [], [(0, .inl 66)], [], [], []), [], [
  (2, [(1, .ofNat 0, .ofNat 128)], [], [], [.inr (false, (1, .ofNat 0))], [], [])], [], 0, 0)
def cu1563 : List sxCu := [
  (4, (3, [(1, .ofNat 0, .ofNat 128), (2, .ofNat 0, .ofNat 128)], [(1, 2, .ofNat 0)], [(0, .inl 66), (1, .inr (false, (1, .ofNat 0))), (2, .inr (false, (2, .ofNat 0)))], [], [], []), ((0, 2, .ofNat 128), (0, 0, .ofNat 0), (0, 0, .ofNat 0)), 0, 0)]
set_option maxRecDepth 1000000 in
theorem cv1563 {gh : sxGh} (hg : sxGd sxKw gh) : sxCtV sxKw gh ct1563 := sxMeB_ok (cts := []) (cuts := cu1563) (sp := []) 81 (by decide +kernel) hg (by decide) (by decide) (fun _ h => absurd h List.not_mem_nil)
/-- LotBeliefs.Survey.never -/
def ct1564 : sxCt := (76, 0, (2, [(1, .ofNat 0, .ofNat 7)], [], [(0, .inl 62), (1, .inr (false, (1, .ofNat 0)))], [], [], []), [], [
  (3, [(1, .ofNat 0, .ofNat 7), (2, .ofNat 0, .ofNat 127)], [], [], [.inr (false, (2, .ofNat 0))], [], [])], [], 0, 0)
def cu1564 : List sxCu := [
  (8, (4, [(1, .ofNat 0, .ofNat 7), (2, .ofNat 0, .ofNat 127), (3, .ofNat 0, .ofNat 128)], [], [(0, .inl 62), (1, .inr (false, (1, .ofNat 0))), (2, .inr (false, (2, .ofNat 0))), (3, .inr (false, (3, .ofNat 0)))], [], [], []), ((0, 3, .ofNat 128), (0, 0, .ofNat 0), (0, 0, .ofNat 0)), 0, 0)]
set_option maxRecDepth 1000000 in
theorem cv1564 {gh : sxGh} (hg : sxGd sxKw gh) : sxCtV sxKw gh ct1564 := sxMeB_ok (cts := []) (cuts := cu1564) (sp := []) 90 (by decide +kernel) hg (by decide) (by decide) (fun _ h => absurd h List.not_mem_nil)
/-- LotBeliefs.Survey.always -/
def ct1565 : sxCt := (75, 0, (2, [(1, .ofNat 0, .ofNat 7)], [], [(0, .inl 62), (1, .inr (false, (1, .ofNat 0)))], [], [], []), [], [
  (3, [(1, .ofNat 0, .ofNat 7), (2, .ofNat 0, .ofNat 127)], [], [], [.inr (false, (2, .ofNat 0))], [], [])], [], 0, 0)
def cu1565 : List sxCu := [
  (8, (4, [(1, .ofNat 0, .ofNat 7), (2, .ofNat 0, .ofNat 127), (3, .ofNat 0, .ofNat 128)], [], [(0, .inl 62), (1, .inr (false, (1, .ofNat 0))), (2, .inr (false, (2, .ofNat 0))), (3, .inr (false, (3, .ofNat 0)))], [], [], []), ((0, 3, .ofNat 128), (0, 0, .ofNat 0), (0, 0, .ofNat 0)), 0, 0)]
set_option maxRecDepth 1000000 in
theorem cv1565 {gh : sxGh} (hg : sxGd sxKw gh) : sxCtV sxKw gh ct1565 := sxMeB_ok (cts := []) (cuts := cu1565) (sp := []) 88 (by decide +kernel) hg (by decide) (by decide) (fun _ h => absurd h List.not_mem_nil)
/-- LotBeliefs.Survey.unlike -/
def ct1566 : sxCt := (74, 0, (1, [], [], [(0, .inl 62)], [], [], []), [], [
  (2, [(1, .ofNat 0, .ofNat 128)], [], [], [.inr (false, (1, .ofNat 0))], [], [])], [], 0, 0)
def cu1566 : List sxCu := [
  (4, (3, [(1, .ofNat 0, .ofNat 128), (2, .ofNat 0, .ofNat 128)], [(1, 2, .ofNat 0)], [(0, .inl 62), (1, .inr (false, (1, .ofNat 0))), (2, .inr (false, (2, .ofNat 0)))], [], [], []), ((0, 2, .ofNat 128), (0, 0, .ofNat 0), (0, 0, .ofNat 0)), 0, 0)]
set_option maxRecDepth 1000000 in
theorem cv1566 {gh : sxGh} (hg : sxGd sxKw gh) : sxCtV sxKw gh ct1566 := sxMeB_ok (cts := []) (cuts := cu1566) (sp := []) 81 (by decide +kernel) hg (by decide) (by decide) (fun _ h => absurd h List.not_mem_nil)
/-- LotBeliefs.Survey.never -/
def ct1567 : sxCt := (76, 0, (2, [(1, .ofNat 0, .ofNat 7)], [], [(0, .inl 58), (1, .inr (false, (1, .ofNat 0)))], [], [], []), [], [
  (3, [(1, .ofNat 0, .ofNat 7), (2, .ofNat 0, .ofNat 127)], [], [], [.inr (false, (2, .ofNat 0))], [], [])], [], 0, 0)
def cu1567 : List sxCu := [
  (8, (4, [(1, .ofNat 0, .ofNat 7), (2, .ofNat 0, .ofNat 127), (3, .ofNat 0, .ofNat 128)], [], [(0, .inl 58), (1, .inr (false, (1, .ofNat 0))), (2, .inr (false, (2, .ofNat 0))), (3, .inr (false, (3, .ofNat 0)))], [], [], []), ((0, 3, .ofNat 128), (0, 0, .ofNat 0), (0, 0, .ofNat 0)), 0, 0)]
set_option maxRecDepth 1000000 in
theorem cv1567 {gh : sxGh} (hg : sxGd sxKw gh) : sxCtV sxKw gh ct1567 := sxMeB_ok (cts := []) (cuts := cu1567) (sp := []) 90 (by decide +kernel) hg (by decide) (by decide) (fun _ h => absurd h List.not_mem_nil)
/-- LotBeliefs.Survey.always -/
def ct1568 : sxCt := (75, 0, (2, [(1, .ofNat 0, .ofNat 7)], [], [(0, .inl 58), (1, .inr (false, (1, .ofNat 0)))], [], [], []), [], [
  (3, [(1, .ofNat 0, .ofNat 7), (2, .ofNat 0, .ofNat 127)], [], [], [.inr (false, (2, .ofNat 0))], [], [])], [], 0, 0)
def cu1568 : List sxCu := [
  (8, (4, [(1, .ofNat 0, .ofNat 7), (2, .ofNat 0, .ofNat 127), (3, .ofNat 0, .ofNat 128)], [], [(0, .inl 58), (1, .inr (false, (1, .ofNat 0))), (2, .inr (false, (2, .ofNat 0))), (3, .inr (false, (3, .ofNat 0)))], [], [], []), ((0, 3, .ofNat 128), (0, 0, .ofNat 0), (0, 0, .ofNat 0)), 0, 0)]
set_option maxRecDepth 1000000 in
theorem cv1568 {gh : sxGh} (hg : sxGd sxKw gh) : sxCtV sxKw gh ct1568 := sxMeB_ok (cts := []) (cuts := cu1568) (sp := []) 88 (by decide +kernel) hg (by decide) (by decide) (fun _ h => absurd h List.not_mem_nil)
/-- LotBeliefs.Survey.unlike -/
def ct1569 : sxCt := (74, 0, (1, [], [], [(0, .inl 58)], [], [], []), [], [
  (2, [(1, .ofNat 0, .ofNat 128)], [], [], [.inr (false, (1, .ofNat 0))], [], [])], [], 0, 0)
def cu1569 : List sxCu := [
  (4, (3, [(1, .ofNat 0, .ofNat 128), (2, .ofNat 0, .ofNat 128)], [(1, 2, .ofNat 0)], [(0, .inl 58), (1, .inr (false, (1, .ofNat 0))), (2, .inr (false, (2, .ofNat 0)))], [], [], []), ((0, 2, .ofNat 128), (0, 0, .ofNat 0), (0, 0, .ofNat 0)), 0, 0)]
set_option maxRecDepth 1000000 in
theorem cv1569 {gh : sxGh} (hg : sxGd sxKw gh) : sxCtV sxKw gh ct1569 := sxMeB_ok (cts := []) (cuts := cu1569) (sp := []) 81 (by decide +kernel) hg (by decide) (by decide) (fun _ h => absurd h List.not_mem_nil)
/-- LotBeliefs.ends -/
def ct1570 : sxCt := (134, 6, (2, [(1, .negSucc 2147483647, .ofNat 2147483647)], [], [(0, .inl 0), (1, .inr (false, (1, .ofNat 0)))], [], [], []), [(21, 0), (22, 0), (25, 0), (26, 0), (30, 0), (32, 1), (32, 2), (32, 3), (32, 4), (32, 9), (32, 11), (32, 12), (33, 0), (34, 0), (35, 0), (36, 0), (37, 0), (58, 2), (58, 3), (58, 6), (58, 7), (59, 0), (60, 0), (61, 0), (62, 2), (62, 3), (62, 6), (62, 7), (63, 0), (64, 0), (65, 0), (66, 2), (66, 3), (66, 6), (66, 7), (67, 0), (68, 0), (69, 0), (70, 2), (70, 3), (70, 6), (70, 7), (71, 0), (72, 0), (73, 0), (74, 2), (74, 3), (74, 6), (74, 7), (75, 0), (76, 0), (77, 0)], [
  (3, [(1, .ofNat 0, .ofNat 2), (2, .ofNat 0, .ofNat 128)], [], [], [.inr (false, (2, .ofNat 0))], [], [])], [
  (1, (3, [(1, .negSucc 2147483647, .ofNat 2147483647), (2, .negSucc 2147483647, .ofNat 2147483647)], [], [], [], [(30, (0, .ofNat 1), .inr (false, (2, .ofNat 0)))], [])), 
  (2, (3, [(1, .ofNat 0, .ofNat 2), (2, .negSucc 2147483647, .ofNat 2147483647)], [], [], [], [(30, (0, .ofNat 2), .inr (false, (2, .ofNat 0)))], []))], 1, 6)
def cu1570 : List sxCu := []
set_option maxRecDepth 1000000 in
theorem cv1570 {gh : sxGh} (hg : sxGd sxKw gh) : sxCtV sxKw gh ct1570 := sxMeB_ok (cts := [ct1043, ct899, ct900, ct1044, ct1045, ct1046, ct1048, ct1049, ct1050, ct1052, ct1053, ct935, ct936, ct1051, ct1054, ct971, ct972, ct1047, ct1007, ct1008, ct1557, ct1560, ct1563, ct1566, ct1569, ct1556, ct1559, ct1562, ct1565, ct1568, ct1555, ct1558, ct1561, ct1564, ct1567]) (cuts := cu1570) (sp := []) 770 (by decide +kernel) hg (by decide) (by decide) (List.forall_mem_cons.mpr ⟨cv1043 hg, (List.forall_mem_cons.mpr ⟨cv899 hg, (List.forall_mem_cons.mpr ⟨cv900 hg, (List.forall_mem_cons.mpr ⟨cv1044 hg, (List.forall_mem_cons.mpr ⟨cv1045 hg, (List.forall_mem_cons.mpr ⟨cv1046 hg, (List.forall_mem_cons.mpr ⟨cv1048 hg, (List.forall_mem_cons.mpr ⟨cv1049 hg, (List.forall_mem_cons.mpr ⟨cv1050 hg, (List.forall_mem_cons.mpr ⟨cv1052 hg, (List.forall_mem_cons.mpr ⟨cv1053 hg, (List.forall_mem_cons.mpr ⟨cv935 hg, (List.forall_mem_cons.mpr ⟨cv936 hg, (List.forall_mem_cons.mpr ⟨cv1051 hg, (List.forall_mem_cons.mpr ⟨cv1054 hg, (List.forall_mem_cons.mpr ⟨cv971 hg, (List.forall_mem_cons.mpr ⟨cv972 hg, (List.forall_mem_cons.mpr ⟨cv1047 hg, (List.forall_mem_cons.mpr ⟨cv1007 hg, (List.forall_mem_cons.mpr ⟨cv1008 hg, (List.forall_mem_cons.mpr ⟨cv1557 hg, (List.forall_mem_cons.mpr ⟨cv1560 hg, (List.forall_mem_cons.mpr ⟨cv1563 hg, (List.forall_mem_cons.mpr ⟨cv1566 hg, (List.forall_mem_cons.mpr ⟨cv1569 hg, (List.forall_mem_cons.mpr ⟨cv1556 hg, (List.forall_mem_cons.mpr ⟨cv1559 hg, (List.forall_mem_cons.mpr ⟨cv1562 hg, (List.forall_mem_cons.mpr ⟨cv1565 hg, (List.forall_mem_cons.mpr ⟨cv1568 hg, (List.forall_mem_cons.mpr ⟨cv1555 hg, (List.forall_mem_cons.mpr ⟨cv1558 hg, (List.forall_mem_cons.mpr ⟨cv1561 hg, (List.forall_mem_cons.mpr ⟨cv1564 hg, (List.forall_mem_cons.mpr ⟨cv1567 hg, (fun _ h => absurd h List.not_mem_nil)⟩)⟩)⟩)⟩)⟩)⟩)⟩)⟩)⟩)⟩)⟩)⟩)⟩)⟩)⟩)⟩)⟩)⟩)⟩)⟩)⟩)⟩)⟩)⟩)⟩)⟩)⟩)⟩)⟩)⟩)⟩)⟩)⟩)⟩)⟩)
/-- LotBeliefs.touchy -/
def ct1573 : sxCt := (133, 6, (1, [], [], [(0, .inl 0)], [], [], []), [(21, 0), (22, 0), (25, 0), (26, 0), (31, 0), (32, 1), (32, 2), (32, 3), (32, 4), (32, 9), (32, 11), (32, 12), (33, 0), (34, 0), (35, 0), (36, 0), (37, 0)], [
  (6, [(1, .ofNat 0, .ofNat 11), (2, .ofNat 0, .ofNat 4), (3, .ofNat 0, .ofNat 63), (4, .ofNat 0, .ofNat 4095), (5, .negSucc 2147483647, .ofNat 2147483647)], [], [], [.inr (false, (1, .ofNat 0))], [(32, (0, .ofNat 2), .inr (false, (2, .ofNat 0))), (32, (0, .ofNat 3), .inr (false, (3, .ofNat 0))), (32, (0, .ofNat 8), .inr (false, (4, .ofNat 0))), (32, (0, .ofNat 11), .inr (false, (5, .ofNat 0)))], [])], [], 0, 0)
def cu1573 : List sxCu := [
  (21, (8, [(1, .ofNat 0, .ofNat 4095), (2, .ofNat 0, .ofNat 11), (3, .ofNat 0, .ofNat 11), (4, .ofNat 0, .ofNat 4), (5, .ofNat 0, .ofNat 63), (6, .ofNat 0, .ofNat 4095), (7, .negSucc 2147483647, .ofNat 2147483647)], [(2, 3, .ofNat 0)], [(0, .inl 0), (1, .inr (false, (1, .ofNat 0))), (2, .inr (false, (2, .ofNat 0))), (3, .inr (false, (3, .ofNat 0)))], [], [(0, (0, .ofNat 7), .inl 27), (0, (0, .ofNat 12), .inl 32), (27, (0, .ofNat 0), .inl 28), (27, (0, .ofNat 1), .inr (false, (4, .ofNat 0))), (27, (0, .ofNat 2), .inr (false, (5, .ofNat 0))), (32, (0, .ofNat 2), .inr (false, (4, .ofNat 0))), (32, (0, .ofNat 3), .inr (false, (5, .ofNat 0))), (32, (0, .ofNat 8), .inr (false, (6, .ofNat 0))), (32, (0, .ofNat 11), .inr (false, (7, .ofNat 0)))], []), ((0, 3, .ofNat 11), (0, 0, .ofNat 0), (0, 0, .ofNat 0)), 0, 0)]
set_option maxRecDepth 1000000 in
theorem cv1573 {gh : sxGh} (hg : sxGd sxKw gh) : sxCtV sxKw gh ct1573 := sxMeB_ok (cts := [ct386, ct390, ct387]) (cuts := cu1573) (sp := []) 685 (by decide +kernel) hg (by decide) (by decide) (List.forall_mem_cons.mpr ⟨cv386 hg, (List.forall_mem_cons.mpr ⟨cv390 hg, (List.forall_mem_cons.mpr ⟨cv387 hg, (fun _ h => absurd h List.not_mem_nil)⟩)⟩)⟩)
/-- LotBeliefs.Course.gone -/
def ct1575 : sxCt := (13, 0, (2, [(1, .ofNat 0, .ofNat 1)], [], [(0, .inl 32), (1, .inr (false, (1, .ofNat 0)))], [], [], []), [], [
  (3, [(1, .ofNat 0, .ofNat 1), (2, .ofNat 0, .ofNat 12)], [], [], [.inr (false, (2, .ofNat 0))], [], [])], [], 0, 0)
def cu1575 : List sxCu := [
  (4, (4, [(1, .ofNat 0, .ofNat 1), (2, .ofNat 0, .ofNat 12), (3, .ofNat 0, .ofNat 12)], [(2, 3, .ofNat 0)], [(0, .inl 32), (1, .inr (false, (1, .ofNat 0))), (2, .inr (false, (2, .ofNat 0))), (3, .inr (false, (3, .ofNat 0)))], [], [], []), ((0, 3, .ofNat 12), (0, 0, .ofNat 0), (0, 0, .ofNat 0)), 0, 0)]
set_option maxRecDepth 1000000 in
theorem cv1575 {gh : sxGh} (hg : sxGd sxKw gh) : sxCtV sxKw gh ct1575 := sxMeB_ok (cts := []) (cuts := cu1575) (sp := []) 129 (by decide +kernel) hg (by decide) (by decide) (fun _ h => absurd h List.not_mem_nil)
/-- LotBeliefs.year -/
def ct1576 : sxCt := (132, 6, (2, [(1, .negSucc 2147483647, .ofNat 2147483647)], [], [(0, .inl 0), (1, .inr (false, (1, .ofNat 0)))], [], [], []), [(21, 0), (22, 0), (25, 0), (26, 0), (30, 0), (32, 1), (32, 2), (32, 3), (32, 4), (32, 9), (32, 11), (32, 12), (33, 0), (34, 0), (35, 0), (36, 0), (37, 0)], [
  (7, [(1, .ofNat 0, .ofNat 5), (2, .negSucc 2147483647, .ofNat 2147483647), (3, .ofNat 0, .ofNat 4), (4, .ofNat 0, .ofNat 63), (5, .ofNat 0, .ofNat 4095), (6, .negSucc 2147483647, .ofNat 2147483647)], [], [], [.inr (false, (2, .ofNat 0))], [(32, (0, .ofNat 2), .inr (false, (3, .ofNat 0))), (32, (0, .ofNat 3), .inr (false, (4, .ofNat 0))), (32, (0, .ofNat 8), .inr (false, (5, .ofNat 0))), (32, (0, .ofNat 11), .inr (false, (6, .ofNat 0)))], [])], [
  (1, (3, [(1, .negSucc 2147483647, .ofNat 2147483647), (2, .negSucc 2147483647, .ofNat 2147483647)], [], [], [], [(30, (0, .ofNat 1), .inr (false, (2, .ofNat 0)))], []))], 1, 6)
def cu1576 : List sxCu := []
set_option maxRecDepth 1000000 in
theorem cv1576 {gh : sxGh} (hg : sxGd sxKw gh) : sxCtV sxKw gh ct1576 := sxMeB_ok (cts := [ct386, ct811, ct1575, ct260, ct388, ct542, ct543, ct84]) (cuts := cu1576) (sp := []) 462 (by decide +kernel) hg (by decide) (by decide) (List.forall_mem_cons.mpr ⟨cv386 hg, (List.forall_mem_cons.mpr ⟨cv811 hg, (List.forall_mem_cons.mpr ⟨cv1575 hg, (List.forall_mem_cons.mpr ⟨cv260 hg, (List.forall_mem_cons.mpr ⟨cv388 hg, (List.forall_mem_cons.mpr ⟨cv542 hg, (List.forall_mem_cons.mpr ⟨cv543 hg, (List.forall_mem_cons.mpr ⟨cv84 hg, (fun _ h => absurd h List.not_mem_nil)⟩)⟩)⟩)⟩)⟩)⟩)⟩)⟩)
/-- LotBeliefs.fate -/
def ct1579 : sxCt := (131, 6, (3, [(1, .negSucc 2147483647, .ofNat 2147483647), (2, .negSucc 2147483647, .ofNat 2147483647)], [], [(0, .inl 0), (1, .inr (false, (1, .ofNat 0))), (2, .inr (false, (2, .ofNat 0)))], [], [], []), [(21, 0), (22, 0), (25, 0), (26, 0), (30, 0), (32, 1), (32, 2), (32, 3), (32, 4), (32, 9), (32, 11), (32, 12), (33, 0), (34, 0), (35, 0), (36, 0), (37, 0)], [
  (8, [(1, .ofNat 0, .ofNat 11), (2, .ofNat 0, .ofNat 4), (3, .negSucc 50, .ofNat 52), (4, .ofNat 0, .ofNat 4), (5, .ofNat 0, .ofNat 63), (6, .ofNat 0, .ofNat 4095), (7, .negSucc 2147483647, .ofNat 2147483647)], [], [], [.inr (false, (3, .ofNat 0))], [(32, (0, .ofNat 2), .inr (false, (4, .ofNat 0))), (32, (0, .ofNat 3), .inr (false, (5, .ofNat 0))), (32, (0, .ofNat 8), .inr (false, (6, .ofNat 0))), (32, (0, .ofNat 11), .inr (false, (7, .ofNat 0)))], [])], [
  (0, (4, [(1, .negSucc 2147483647, .ofNat 2147483647), (2, .negSucc 2147483647, .ofNat 2147483647), (3, .negSucc 2147483647, .ofNat 2147483647)], [], [], [], [(30, (0, .ofNat 0), .inr (false, (3, .ofNat 0)))], [])), 
  (1, (4, [(1, .ofNat 0, .ofNat 11), (2, .negSucc 2147483647, .ofNat 2147483647), (3, .negSucc 2147483647, .ofNat 2147483647)], [], [], [], [(30, (0, .ofNat 1), .inr (false, (3, .ofNat 0)))], []))], 1, 6)
def cu1579 : List sxCu := []
set_option maxRecDepth 1000000 in
theorem cv1579 {gh : sxGh} (hg : sxGd sxKw gh) : sxCtV sxKw gh ct1579 := sxMeB_ok (cts := [ct386]) (cuts := cu1579) (sp := []) 771 (by decide +kernel) hg (by decide) (by decide) (List.forall_mem_cons.mpr ⟨cv386 hg, (fun _ h => absurd h List.not_mem_nil)⟩)
/-- LotBeliefsModel.world -/
def ct1583 : sxCt := (258, 1, (2, [(1, .negSucc 2147483647, .ofNat 2147483647)], [], [(0, .inl 78), (1, .inr (false, (1, .ofNat 0)))], [], [], []), [(78, 1), (80, 0), (82, 0)], [
  (5, [(1, .negSucc 2147483647, .ofNat 2147483647), (2, .ofNat 0, .ofNat 63), (3, .ofNat 0, .ofNat 1), (4, .ofNat 0, .ofNat 6)], [], [], [.inr (false, (2, .ofNat 0))], [(78, (0, .ofNat 0), .inr (false, (3, .ofNat 0))), (82, (0, .ofNat 0), .inr (false, (4, .ofNat 0)))], [])], [], 0, 0)
def cu1583 : List sxCu := []
set_option maxRecDepth 1000000 in
theorem cv1583 {gh : sxGh} (hg : sxGd sxKw gh) : sxCtV sxKw gh ct1583 := sxMeB_ok (cts := []) (cuts := cu1583) (sp := []) 175 (by decide +kernel) hg (by decide) (by decide) (fun _ h => absurd h List.not_mem_nil)
/-- LotBeliefsModel.world -/
def ct1584 : sxCt := (258, 1, (2, [(1, .ofNat 0, .ofNat 63)], [], [(0, .inl 78), (1, .inr (false, (1, .ofNat 0)))], [], [], []), [(78, 1), (80, 0), (82, 0)], [
  (5, [(1, .ofNat 0, .ofNat 63), (2, .ofNat 0, .ofNat 63), (3, .ofNat 0, .ofNat 1), (4, .ofNat 0, .ofNat 6)], [], [], [.inr (false, (2, .ofNat 0))], [(78, (0, .ofNat 0), .inr (false, (3, .ofNat 0))), (82, (0, .ofNat 0), .inr (false, (4, .ofNat 0)))], [])], [], 0, 0)
def cu1584 : List sxCu := []
set_option maxRecDepth 1000000 in
theorem cv1584 {gh : sxGh} (hg : sxGd sxKw gh) : sxCtV sxKw gh ct1584 := sxMeB_ok (cts := []) (cuts := cu1584) (sp := []) 142 (by decide +kernel) hg (by decide) (by decide) (fun _ h => absurd h List.not_mem_nil)
/-- LotBeliefs.order -/
def ct1585 : sxCt := (126, 2, (2, [(1, .negSucc 9223372036854775807, .ofNat 9223372036854775807)], [], [(0, .inl 0), (1, .inr (true, (1, .ofNat 0)))], [], [], []), [(28, 0)], [
  (3, [(1, .negSucc 9223372036854775807, .ofNat 9223372036854775807), (2, .ofNat 0, .ofNat 1)], [], [], [.inr (false, (2, .ofNat 0))], [], [])], [], 0, 0)
def cu1585 : List sxCu := [
  (23, (4, [(1, .negSucc 9223372036854775807, .ofNat 9223372036854775807), (2, .ofNat 0, .ofNat 4095), (3, .ofNat 0, .ofNat 12)], [], [(0, .inl 0), (1, .inr (true, (1, .ofNat 0))), (3, .inr (false, (2, .ofNat 0))), (4, .inr (false, (3, .ofNat 0)))], [], [], []), ((0, 3, .ofNat 12), (0, 0, .ofNat 0), (0, 0, .ofNat 0)), 0, 0)]
set_option maxRecDepth 1000000 in
theorem cv1585 {gh : sxGh} (hg : sxGd sxKw gh) : sxCtV sxKw gh ct1585 := sxMeB_ok (cts := [ct1540]) (cuts := cu1585) (sp := []) 201 (by decide +kernel) hg (by decide) (by decide) (List.forall_mem_cons.mpr ⟨cv1540 hg, (fun _ h => absurd h List.not_mem_nil)⟩)
/-- LotBeliefsModel.order -/
def ct1586 : sxCt := (255, 2, (2, [(1, .negSucc 9223372036854775807, .ofNat 9223372036854775807)], [], [(0, .inl 78), (1, .inr (true, (1, .ofNat 0)))], [], [], []), [(78, 1), (90, 0), (560, 0)], [
  (3, [(1, .negSucc 9223372036854775807, .ofNat 9223372036854775807), (2, .ofNat 0, .ofNat 1)], [], [], [.inr (false, (2, .ofNat 0))], [(78, (0, .ofNat 0), .inr (false, (0, .ofNat 0)))], [])], [], 0, 0)
def cu1586 : List sxCu := [
  (112, (5, [(1, .ofNat 0, .ofNat 9223372036854775807), (2, .ofNat 0, .ofNat 4095), (3, .ofNat 0, .ofNat 12), (4, .ofNat 0, .ofNat 12)], [(3, 4, .ofNat 0)], [(0, .inl 78), (1, .inr (true, (1, .ofNat 0))), (3, .inr (true, (0, .ofNat 0))), (5, .inr (false, (2, .ofNat 0))), (6, .inr (false, (3, .ofNat 0)))], [], [(78, (0, .ofNat 0), .inr (false, (0, .ofNat 0))), (78, (0, .ofNat 12), .inl 82), (82, (0, .ofNat 1), .inr (false, (4, .ofNat 0)))], []), ((0, 3, .ofNat 12), (0, 0, .ofNat 0), (0, 0, .ofNat 0)), 0, 0), 
  (20, (6, [(1, .negSucc 9223372036854775807, .ofNat 9223372036854775807), (2, .negSucc 9223372036854775807, .ofNat 9223372036854775807), (3, .ofNat 0, .ofNat 4095), (4, .negSucc 0, .ofNat 11), (5, .ofNat 0, .ofNat 12)], [(4, 5, .negSucc 0)], [(0, .inl 78), (1, .inr (true, (1, .ofNat 0))), (3, .inr (true, (2, .ofNat 0))), (5, .inr (false, (3, .ofNat 0))), (6, .inr (false, (4, .ofNat 0)))], [], [(78, (0, .ofNat 0), .inr (false, (0, .ofNat 0))), (78, (0, .ofNat 12), .inl 82), (82, (0, .ofNat 1), .inr (false, (5, .ofNat 0)))], []), ((4, 0, .ofNat 14), (0, 0, .ofNat 0), (0, 0, .ofNat 0)), 0, 0)]
set_option maxRecDepth 1000000 in
theorem cv1586 {gh : sxGh} (hg : sxGd sxKw gh) : sxCtV sxKw gh ct1586 := sxMeB_ok (cts := []) (cuts := cu1586) (sp := []) 209 (by decide +kernel) hg (by decide) (by decide) (fun _ h => absurd h List.not_mem_nil)
/-- LotBeliefs.dull -/
def ct1587 : sxCt := (125, 0, (1, [], [], [(0, .inl 0)], [], [], []), [], [
  (2, [(1, .ofNat 0, .ofNat 4095)], [], [], [.inr (false, (1, .ofNat 0))], [], [])], [], 0, 0)
def cu1587 : List sxCu := [
  (4, (3, [(1, .ofNat 0, .ofNat 4095), (2, .ofNat 0, .ofNat 12)], [], [(0, .inl 0), (1, .inr (false, (1, .ofNat 0))), (2, .inr (false, (2, .ofNat 0)))], [], [], []), ((0, 2, .ofNat 12), (0, 0, .ofNat 0), (0, 0, .ofNat 0)), 0, 0)]
set_option maxRecDepth 1000000 in
theorem cv1587 {gh : sxGh} (hg : sxGd sxKw gh) : sxCtV sxKw gh ct1587 := sxMeB_ok (cts := []) (cuts := cu1587) (sp := []) 139 (by decide +kernel) hg (by decide) (by decide) (fun _ h => absurd h List.not_mem_nil)
/-- LotBeliefsModel.dull -/
def ct1588 : sxCt := (254, 0, (1, [], [], [(0, .inl 78)], [], [], []), [(78, 1)], [
  (2, [(1, .ofNat 0, .ofNat 4095)], [], [], [.inr (false, (1, .ofNat 0))], [(78, (0, .ofNat 0), .inr (false, (0, .ofNat 0)))], [])], [], 0, 0)
def cu1588 : List sxCu := [
  (9, (3, [(1, .ofNat 0, .ofNat 4095), (2, .ofNat 0, .ofNat 12)], [], [(0, .inl 78), (1, .inr (false, (1, .ofNat 0))), (2, .inr (false, (2, .ofNat 0)))], [], [(78, (0, .ofNat 0), .inr (false, (0, .ofNat 0)))], []), ((0, 2, .ofNat 12), (0, 0, .ofNat 0), (0, 0, .ofNat 0)), 0, 0)]
set_option maxRecDepth 1000000 in
theorem cv1588 {gh : sxGh} (hg : sxGd sxKw gh) : sxCtV sxKw gh ct1588 := sxMeB_ok (cts := []) (cuts := cu1588) (sp := []) 111 (by decide +kernel) hg (by decide) (by decide) (fun _ h => absurd h List.not_mem_nil)
/-- LotBeliefsModel.fallOut -/
def ct1589 : sxCt := (250, 2, (4, [(1, .negSucc 2147483647, .ofNat 2147483647), (2, .negSucc 2147483647, .ofNat 2147483647), (3, .negSucc 2147483647, .ofNat 2147483647)], [], [(0, .inl 78), (1, .inr (false, (1, .ofNat 0))), (2, .inr (false, (2, .ofNat 0))), (3, .inr (false, (3, .ofNat 0)))], [], [], []), [(78, 1), (80, 0)], [
  (5, [(1, .negSucc 2147483647, .ofNat 2147483647), (2, .negSucc 2147483647, .ofNat 2147483647), (3, .negSucc 2147483647, .ofNat 2147483647), (4, .ofNat 0, .ofNat 2)], [], [], [.inr (false, (0, .ofNat 0))], [(78, (0, .ofNat 0), .inr (false, (4, .ofNat 0)))], []), 
  (4, [(1, .ofNat 0, .ofNat 11), (2, .ofNat 0, .ofNat 11), (3, .ofNat 0, .ofNat 51)], [], [], [.inr (false, (0, .ofNat 1))], [(78, (0, .ofNat 0), .inr (false, (0, .ofNat 0)))], [])], [], 0, 0)
def cu1589 : List sxCu := []
set_option maxRecDepth 1000000 in
theorem cv1589 {gh : sxGh} (hg : sxGd sxKw gh) : sxCtV sxKw gh ct1589 := sxMeB_ok (cts := []) (cuts := cu1589) (sp := []) 390 (by decide +kernel) hg (by decide) (by decide) (fun _ h => absurd h List.not_mem_nil)
/-- LotBeliefsModel.fallOut -/
def ct1590 : sxCt := (250, 2, (4, [(1, .ofNat 0, .ofNat 11), (2, .negSucc 2147483647, .ofNat 2147483647), (3, .negSucc 2147483647, .ofNat 2147483647)], [], [(0, .inl 78), (1, .inr (false, (1, .ofNat 0))), (2, .inr (false, (2, .ofNat 0))), (3, .inr (false, (3, .ofNat 0)))], [], [], []), [(78, 1), (80, 0)], [
  (5, [(1, .ofNat 0, .ofNat 11), (2, .negSucc 2147483647, .ofNat 2147483647), (3, .negSucc 2147483647, .ofNat 2147483647), (4, .ofNat 0, .ofNat 2)], [], [], [.inr (false, (0, .ofNat 0))], [(78, (0, .ofNat 0), .inr (false, (4, .ofNat 0)))], []), 
  (4, [(1, .ofNat 0, .ofNat 11), (2, .ofNat 0, .ofNat 11), (3, .ofNat 0, .ofNat 51)], [], [], [.inr (false, (0, .ofNat 1))], [(78, (0, .ofNat 0), .inr (false, (0, .ofNat 0)))], [])], [], 0, 0)
def cu1590 : List sxCu := []
set_option maxRecDepth 1000000 in
theorem cv1590 {gh : sxGh} (hg : sxGd sxKw gh) : sxCtV sxKw gh ct1590 := sxMeB_ok (cts := []) (cuts := cu1590) (sp := []) 356 (by decide +kernel) hg (by decide) (by decide) (fun _ h => absurd h List.not_mem_nil)
/-- LotBeliefsModel.fallOut -/
def ct1591 : sxCt := (250, 2, (4, [(1, .ofNat 0, .ofNat 11), (2, .ofNat 0, .ofNat 11), (3, .negSucc 2147483647, .ofNat 2147483647)], [], [(0, .inl 78), (1, .inr (false, (1, .ofNat 0))), (2, .inr (false, (2, .ofNat 0))), (3, .inr (false, (3, .ofNat 0)))], [], [], []), [(78, 1), (80, 0)], [
  (5, [(1, .ofNat 0, .ofNat 11), (2, .ofNat 0, .ofNat 11), (3, .negSucc 2147483647, .ofNat 2147483647), (4, .ofNat 0, .ofNat 2)], [], [], [.inr (false, (0, .ofNat 0))], [(78, (0, .ofNat 0), .inr (false, (4, .ofNat 0)))], []), 
  (4, [(1, .ofNat 0, .ofNat 11), (2, .ofNat 0, .ofNat 11), (3, .ofNat 0, .ofNat 51)], [], [], [.inr (false, (0, .ofNat 1))], [(78, (0, .ofNat 0), .inr (false, (0, .ofNat 0)))], [])], [], 0, 0)
def cu1591 : List sxCu := []
set_option maxRecDepth 1000000 in
theorem cv1591 {gh : sxGh} (hg : sxGd sxKw gh) : sxCtV sxKw gh ct1591 := sxMeB_ok (cts := []) (cuts := cu1591) (sp := []) 322 (by decide +kernel) hg (by decide) (by decide) (fun _ h => absurd h List.not_mem_nil)
/-- LotBeliefsModel.fallOut -/
def ct1592 : sxCt := (250, 2, (4, [(1, .ofNat 0, .ofNat 11), (2, .ofNat 0, .ofNat 11), (3, .ofNat 0, .ofNat 51)], [], [(0, .inl 78), (1, .inr (false, (1, .ofNat 0))), (2, .inr (false, (2, .ofNat 0))), (3, .inr (false, (3, .ofNat 0)))], [], [], []), [(78, 1), (80, 0)], [
  (5, [(1, .ofNat 0, .ofNat 11), (2, .ofNat 0, .ofNat 11), (3, .ofNat 0, .ofNat 51), (4, .ofNat 0, .ofNat 1)], [], [], [.inr (false, (0, .ofNat 0))], [(78, (0, .ofNat 0), .inr (false, (4, .ofNat 0)))], []), 
  (4, [(1, .ofNat 0, .ofNat 11), (2, .ofNat 0, .ofNat 11), (3, .ofNat 0, .ofNat 51)], [], [], [.inr (false, (0, .ofNat 1))], [(78, (0, .ofNat 0), .inr (false, (0, .ofNat 0)))], [])], [], 0, 0)
def cu1592 : List sxCu := []
set_option maxRecDepth 1000000 in
theorem cv1592 {gh : sxGh} (hg : sxGd sxKw gh) : sxCtV sxKw gh ct1592 := sxMeB_ok (cts := []) (cuts := cu1592) (sp := []) 254 (by decide +kernel) hg (by decide) (by decide) (fun _ h => absurd h List.not_mem_nil)
/-- LotBeliefs.kin -/
def ct1593 : sxCt := (122, 2, (3, [(1, .negSucc 2147483647, .ofNat 2147483647), (2, .negSucc 2147483647, .ofNat 2147483647)], [], [(0, .inl 0), (1, .inr (false, (1, .ofNat 0))), (2, .inr (false, (2, .ofNat 0)))], [], [], []), [(30, 0)], [
  (4, [(1, .ofNat 0, .ofNat 11), (2, .ofNat 0, .ofNat 11), (3, .ofNat 0, .ofNat 4)], [], [], [.inr (false, (3, .ofNat 0))], [], [])], [
  (0, (4, [(1, .negSucc 2147483647, .ofNat 2147483647), (2, .negSucc 2147483647, .ofNat 2147483647), (3, .negSucc 2147483647, .ofNat 2147483647)], [], [], [], [(30, (0, .ofNat 0), .inr (false, (3, .ofNat 0)))], []))], 1, 6)
def cu1593 : List sxCu := []
set_option maxRecDepth 1000000 in
theorem cv1593 {gh : sxGh} (hg : sxGd sxKw gh) : sxCtV sxKw gh ct1593 := sxMeB_ok (cts := []) (cuts := cu1593) (sp := []) 597 (by decide +kernel) hg (by decide) (by decide) (fun _ h => absurd h List.not_mem_nil)
/-- LotBeliefsModel.kin -/
def ct1594 : sxCt := (248, 2, (3, [(1, .negSucc 2147483647, .ofNat 2147483647), (2, .negSucc 2147483647, .ofNat 2147483647)], [], [(0, .inl 78), (1, .inr (false, (1, .ofNat 0))), (2, .inr (false, (2, .ofNat 0)))], [], [], []), [(78, 1), (80, 0)], [
  (5, [(1, .negSucc 2147483647, .ofNat 2147483647), (2, .negSucc 2147483647, .ofNat 2147483647), (3, .ofNat 0, .ofNat 4), (4, .ofNat 0, .ofNat 1)], [], [], [.inr (false, (3, .ofNat 0))], [(78, (0, .ofNat 0), .inr (false, (4, .ofNat 0)))], [])], [], 0, 0)
def cu1594 : List sxCu := []
set_option maxRecDepth 1000000 in
theorem cv1594 {gh : sxGh} (hg : sxGd sxKw gh) : sxCtV sxKw gh ct1594 := sxMeB_ok (cts := []) (cuts := cu1594) (sp := []) 423 (by decide +kernel) hg (by decide) (by decide) (fun _ h => absurd h List.not_mem_nil)
/-- LotBeliefsModel.kin -/
def ct1595 : sxCt := (248, 2, (3, [(1, .ofNat 0, .ofNat 11), (2, .ofNat 0, .ofNat 11)], [], [(0, .inl 78), (1, .inr (false, (1, .ofNat 0))), (2, .inr (false, (2, .ofNat 0)))], [], [], []), [(78, 1), (80, 0)], [
  (5, [(1, .ofNat 0, .ofNat 11), (2, .ofNat 0, .ofNat 11), (3, .ofNat 0, .ofNat 4), (4, .ofNat 0, .ofNat 1)], [], [], [.inr (false, (3, .ofNat 0))], [(78, (0, .ofNat 0), .inr (false, (4, .ofNat 0)))], [])], [], 0, 0)
def cu1595 : List sxCu := []
set_option maxRecDepth 1000000 in
theorem cv1595 {gh : sxGh} (hg : sxGd sxKw gh) : sxCtV sxKw gh ct1595 := sxMeB_ok (cts := []) (cuts := cu1595) (sp := []) 355 (by decide +kernel) hg (by decide) (by decide) (fun _ h => absurd h List.not_mem_nil)
/-- LotBeliefs.Tape.step -/
def ct1596 : sxCt := (83, 0, (1, [], [], [(0, .inl 1)], [], [], []), [(1, 4), (1, 5), (1, 6), (1, 7)], [
  (2, [(1, .ofNat 0, .ofNat 4)], [], [], [], [(1, (0, .ofNat 3), .inr (false, (1, .ofNat 0)))], [])], [], 0, 0)
def cu1596 : List sxCu := [
  (109, (6, [(1, .ofNat 0, .ofNat 600), (2, .ofNat 1, .ofNat 600), (3, .ofNat 0, .ofNat 599), (4, .ofNat 0, .ofNat 599), (5, .ofNat 97, .ofNat 122)], [(3, 1, .ofNat 0), (3, 2, .negSucc 0), (4, 1, .ofNat 0), (4, 2, .negSucc 0), (4, 3, .ofNat 0)], [(0, .inl 1), (1, .inr (false, (1, .ofNat 0)))], [], [(1, (0, .ofNat 0), .inl 2), (1, (0, .ofNat 2), .inr (false, (2, .ofNat 0))), (1, (0, .ofNat 3), .inr (false, (0, .ofNat 1))), (1, (0, .ofNat 4), .inr (false, (3, .ofNat 0))), (1, (0, .ofNat 5), .inr (false, (4, .ofNat 0))), (1, (0, .ofNat 6), .inr (false, (5, .ofNat 0)))], []), ((0, 1, .ofNat 1201), (0, 0, .ofNat 0), (0, 0, .ofNat 0)), 0, 0), 
  (14, (4, [(1, .ofNat 0, .ofNat 600), (2, .ofNat 0, .ofNat 3), (3, .ofNat 0, .ofNat 600)], [(3, 1, .ofNat 0)], [(0, .inl 1), (1, .inr (false, (1, .ofNat 0)))], [], [(1, (0, .ofNat 3), .inr (false, (2, .ofNat 0))), (1, (0, .ofNat 5), .inr (false, (3, .ofNat 0)))], []), ((0, 1, .ofNat 1802), (0, 0, .ofNat 0), (0, 0, .ofNat 0)), 0, 0), 
  (173, (6, [(1, .ofNat 0, .ofNat 600), (2, .ofNat 1, .ofNat 600), (3, .ofNat 0, .ofNat 599), (4, .ofNat 0, .ofNat 599), (5, .negSucc 2147483647, .ofNat 2147483647)], [(3, 1, .ofNat 0), (3, 2, .negSucc 0), (4, 1, .ofNat 0), (4, 2, .negSucc 0), (4, 3, .ofNat 0)], [(0, .inl 1), (1, .inr (false, (1, .ofNat 0)))], [], [(1, (0, .ofNat 0), .inl 2), (1, (0, .ofNat 2), .inr (false, (2, .ofNat 0))), (1, (0, .ofNat 3), .inr (false, (0, .ofNat 2))), (1, (0, .ofNat 4), .inr (false, (3, .ofNat 0))), (1, (0, .ofNat 5), .inr (false, (4, .ofNat 0))), (1, (0, .ofNat 6), .inr (false, (5, .ofNat 0)))], []), ((0, 1, .ofNat 600), (0, 0, .ofNat 0), (0, 0, .ofNat 0)), 0, 0)]
set_option maxRecDepth 1000000 in
theorem cv1596 {gh : sxGh} (hg : sxGd sxKw gh) : sxCtV sxKw gh ct1596 := sxMeB_ok (cts := []) (cuts := cu1596) (sp := []) 257 (by decide +kernel) hg (by decide) (by decide) (fun _ h => absurd h List.not_mem_nil)
/-- LotBeliefs.Tape.isWord -/
def ct1597 : sxCt := (85, 0, (1, [], [], [(0, .inl 1), (1, .inl 1000012)], [], [], []), [], [
  (1, [], [], [], [.inr (false, (0, .ofNat 0))], [], []), 
  (1, [], [], [], [.inr (false, (0, .ofNat 1))], [], [])], [], 0, 0)
def cu1597 : List sxCu := []
set_option maxRecDepth 1000000 in
theorem cv1597 {gh : sxGh} (hg : sxGd sxKw gh) : sxCtV sxKw gh ct1597 := sxMeB_ok (cts := []) (cuts := cu1597) (sp := []) 204 (by decide +kernel) hg (by decide) (by decide) (fun _ h => absurd h List.not_mem_nil)
/-- LotBeliefs.Tape.isWord -/
def ct1598 : sxCt := (85, 0, (1, [], [], [(0, .inl 1), (1, .inl 1000015)], [], [], []), [], [
  (1, [], [], [], [.inr (false, (0, .ofNat 0))], [], []), 
  (1, [], [], [], [.inr (false, (0, .ofNat 1))], [], [])], [], 0, 0)
def cu1598 : List sxCu := []
set_option maxRecDepth 1000000 in
theorem cv1598 {gh : sxGh} (hg : sxGd sxKw gh) : sxCtV sxKw gh ct1598 := sxMeB_ok (cts := []) (cuts := cu1598) (sp := []) 174 (by decide +kernel) hg (by decide) (by decide) (fun _ h => absurd h List.not_mem_nil)
/-- LotBeliefs.Tape.isWord -/
def ct1599 : sxCt := (85, 0, (1, [], [], [(0, .inl 1), (1, .inl 1000016)], [], [], []), [], [
  (1, [], [], [], [.inr (false, (0, .ofNat 0))], [], []), 
  (1, [], [], [], [.inr (false, (0, .ofNat 1))], [], [])], [], 0, 0)
def cu1599 : List sxCu := []
set_option maxRecDepth 1000000 in
theorem cv1599 {gh : sxGh} (hg : sxGd sxKw gh) : sxCtV sxKw gh ct1599 := sxMeB_ok (cts := []) (cuts := cu1599) (sp := []) 174 (by decide +kernel) hg (by decide) (by decide) (fun _ h => absurd h List.not_mem_nil)
/-- LotBeliefs.Tape.isWord -/
def ct1600 : sxCt := (85, 0, (1, [], [], [(0, .inl 1), (1, .inl 1000017)], [], [], []), [], [
  (1, [], [], [], [.inr (false, (0, .ofNat 0))], [], []), 
  (1, [], [], [], [.inr (false, (0, .ofNat 1))], [], [])], [], 0, 0)
def cu1600 : List sxCu := []
set_option maxRecDepth 1000000 in
theorem cv1600 {gh : sxGh} (hg : sxGd sxKw gh) : sxCtV sxKw gh ct1600 := sxMeB_ok (cts := []) (cuts := cu1600) (sp := []) 234 (by decide +kernel) hg (by decide) (by decide) (fun _ h => absurd h List.not_mem_nil)
/-- LotBeliefs.Tape.isWord -/
def ct1601 : sxCt := (85, 0, (1, [], [], [(0, .inl 1), (1, .inl 1000018)], [], [], []), [], [
  (1, [], [], [], [.inr (false, (0, .ofNat 0))], [], []), 
  (1, [], [], [], [.inr (false, (0, .ofNat 1))], [], [])], [], 0, 0)
def cu1601 : List sxCu := []
set_option maxRecDepth 1000000 in
theorem cv1601 {gh : sxGh} (hg : sxGd sxKw gh) : sxCtV sxKw gh ct1601 := sxMeB_ok (cts := []) (cuts := cu1601) (sp := []) 204 (by decide +kernel) hg (by decide) (by decide) (fun _ h => absurd h List.not_mem_nil)
/-- LotBeliefs.Tape.isWord -/
def ct1602 : sxCt := (85, 0, (1, [], [], [(0, .inl 1), (1, .inl 1000019)], [], [], []), [], [
  (1, [], [], [], [.inr (false, (0, .ofNat 0))], [], []), 
  (1, [], [], [], [.inr (false, (0, .ofNat 1))], [], [])], [], 0, 0)
def cu1602 : List sxCu := []
set_option maxRecDepth 1000000 in
theorem cv1602 {gh : sxGh} (hg : sxGd sxKw gh) : sxCtV sxKw gh ct1602 := sxMeB_ok (cts := []) (cuts := cu1602) (sp := []) 204 (by decide +kernel) hg (by decide) (by decide) (fun _ h => absurd h List.not_mem_nil)
/-- LotBeliefs.Tape.isWord -/
def ct1603 : sxCt := (85, 0, (1, [], [], [(0, .inl 1), (1, .inl 1000020)], [], [], []), [], [
  (1, [], [], [], [.inr (false, (0, .ofNat 0))], [], []), 
  (1, [], [], [], [.inr (false, (0, .ofNat 1))], [], [])], [], 0, 0)
def cu1603 : List sxCu := []
set_option maxRecDepth 1000000 in
theorem cv1603 {gh : sxGh} (hg : sxGd sxKw gh) : sxCtV sxKw gh ct1603 := sxMeB_ok (cts := []) (cuts := cu1603) (sp := []) 204 (by decide +kernel) hg (by decide) (by decide) (fun _ h => absurd h List.not_mem_nil)
/-- LotBeliefs.Tape.isWord -/
def ct1604 : sxCt := (85, 0, (1, [], [], [(0, .inl 1), (1, .inl 1000021)], [], [], []), [], [
  (1, [], [], [], [.inr (false, (0, .ofNat 0))], [], []), 
  (1, [], [], [], [.inr (false, (0, .ofNat 1))], [], [])], [], 0, 0)
def cu1604 : List sxCu := []
set_option maxRecDepth 1000000 in
theorem cv1604 {gh : sxGh} (hg : sxGd sxKw gh) : sxCtV sxKw gh ct1604 := sxMeB_ok (cts := []) (cuts := cu1604) (sp := []) 204 (by decide +kernel) hg (by decide) (by decide) (fun _ h => absurd h List.not_mem_nil)
/-- LotBeliefs.Tape.isWord -/
def ct1605 : sxCt := (85, 0, (1, [], [], [(0, .inl 1), (1, .inl 1000022)], [], [], []), [], [
  (1, [], [], [], [.inr (false, (0, .ofNat 0))], [], []), 
  (1, [], [], [], [.inr (false, (0, .ofNat 1))], [], [])], [], 0, 0)
def cu1605 : List sxCu := []
set_option maxRecDepth 1000000 in
theorem cv1605 {gh : sxGh} (hg : sxGd sxKw gh) : sxCtV sxKw gh ct1605 := sxMeB_ok (cts := []) (cuts := cu1605) (sp := []) 204 (by decide +kernel) hg (by decide) (by decide) (fun _ h => absurd h List.not_mem_nil)
/-- LotBeliefs.Tape.isWord -/
def ct1606 : sxCt := (85, 0, (1, [], [], [(0, .inl 1), (1, .inl 1000023)], [], [], []), [], [
  (1, [], [], [], [.inr (false, (0, .ofNat 0))], [], []), 
  (1, [], [], [], [.inr (false, (0, .ofNat 1))], [], [])], [], 0, 0)
def cu1606 : List sxCu := []
set_option maxRecDepth 1000000 in
theorem cv1606 {gh : sxGh} (hg : sxGd sxKw gh) : sxCtV sxKw gh ct1606 := sxMeB_ok (cts := []) (cuts := cu1606) (sp := []) 204 (by decide +kernel) hg (by decide) (by decide) (fun _ h => absurd h List.not_mem_nil)
/-- LotBeliefs.Tape.isWord -/
def ct1607 : sxCt := (85, 0, (1, [], [], [(0, .inl 1), (1, .inl 1000024)], [], [], []), [], [
  (1, [], [], [], [.inr (false, (0, .ofNat 0))], [], []), 
  (1, [], [], [], [.inr (false, (0, .ofNat 1))], [], [])], [], 0, 0)
def cu1607 : List sxCu := []
set_option maxRecDepth 1000000 in
theorem cv1607 {gh : sxGh} (hg : sxGd sxKw gh) : sxCtV sxKw gh ct1607 := sxMeB_ok (cts := []) (cuts := cu1607) (sp := []) 204 (by decide +kernel) hg (by decide) (by decide) (fun _ h => absurd h List.not_mem_nil)
/-- LotBeliefs.Tape.isWord -/
def ct1608 : sxCt := (85, 0, (1, [], [], [(0, .inl 1), (1, .inl 1000025)], [], [], []), [], [
  (1, [], [], [], [.inr (false, (0, .ofNat 0))], [], []), 
  (1, [], [], [], [.inr (false, (0, .ofNat 1))], [], [])], [], 0, 0)
def cu1608 : List sxCu := []
set_option maxRecDepth 1000000 in
theorem cv1608 {gh : sxGh} (hg : sxGd sxKw gh) : sxCtV sxKw gh ct1608 := sxMeB_ok (cts := []) (cuts := cu1608) (sp := []) 264 (by decide +kernel) hg (by decide) (by decide) (fun _ h => absurd h List.not_mem_nil)
/-- LotBeliefs.TongueReader.quantityHere -/
def ct1609 : sxCt := (111, 1, (1, [], [], [(0, .inl 1)], [], [], []), [], [
  (2, [(1, .negSucc 0, .ofNat 9)], [], [], [.inr (false, (1, .ofNat 0))], [], [])], [], 0, 0)
def cu1609 : List sxCu := []
set_option maxRecDepth 1000000 in
theorem cv1609 {gh : sxGh} (hg : sxGd sxKw gh) : sxCtV sxKw gh ct1609 := sxMeB_ok (cts := [ct1600, ct1601, ct1602, ct1603, ct1604, ct1605, ct1606, ct1607, ct1608, ct1599]) (cuts := cu1609) (sp := []) 143 (by decide +kernel) hg (by decide) (by decide) (List.forall_mem_cons.mpr ⟨cv1600 hg, (List.forall_mem_cons.mpr ⟨cv1601 hg, (List.forall_mem_cons.mpr ⟨cv1602 hg, (List.forall_mem_cons.mpr ⟨cv1603 hg, (List.forall_mem_cons.mpr ⟨cv1604 hg, (List.forall_mem_cons.mpr ⟨cv1605 hg, (List.forall_mem_cons.mpr ⟨cv1606 hg, (List.forall_mem_cons.mpr ⟨cv1607 hg, (List.forall_mem_cons.mpr ⟨cv1608 hg, (List.forall_mem_cons.mpr ⟨cv1599 hg, (fun _ h => absurd h List.not_mem_nil)⟩)⟩)⟩)⟩)⟩)⟩)⟩)⟩)⟩)⟩)
/-- LotBeliefs.TongueReader.readValue -/
def ct1610 : sxCt := (110, 2, (1, [], [], [(0, .inl 1), (1, .inl 23)], [], [(1, (0, .ofNat 7), .inr (false, (0, .ofNat 6)))], []), [(1, 4), (1, 5), (1, 6), (1, 7), (1, 9), (1, 10), (23, 3), (24, 0)], [
  (2, [(1, .ofNat 0, .ofNat 4)], [], [], [], [(1, (0, .ofNat 3), .inr (false, (1, .ofNat 0))), (1, (0, .ofNat 7), .inr (false, (0, .ofNat 6)))], [])], [], 0, 0)
def cu1610 : List sxCu := []
set_option maxRecDepth 1000000 in
theorem cv1610 {gh : sxGh} (hg : sxGd sxKw gh) : sxCtV sxKw gh ct1610 := sxMeB_ok (cts := [ct1596, ct1609]) (cuts := cu1610) (sp := []) 476 (by decide +kernel) hg (by decide) (by decide) (List.forall_mem_cons.mpr ⟨cv1596 hg, (List.forall_mem_cons.mpr ⟨cv1609 hg, (fun _ h => absurd h List.not_mem_nil)⟩)⟩)
/-- LotBeliefs.TongueReader.readProduct -/
def ct1611 : sxCt := (109, 3, (1, [], [], [(0, .inl 1), (1, .inl 23)], [], [(1, (0, .ofNat 7), .inr (false, (0, .ofNat 6)))], []), [(1, 4), (1, 5), (1, 6), (1, 7), (1, 9), (1, 10), (23, 3), (24, 0)], [
  (2, [(1, .ofNat 0, .ofNat 4)], [], [], [], [(1, (0, .ofNat 3), .inr (false, (1, .ofNat 0))), (1, (0, .ofNat 7), .inr (false, (0, .ofNat 6)))], [])], [], 0, 0)
def cu1611 : List sxCu := [
  (7, (3, [(1, .ofNat 0, .ofNat 200), (2, .ofNat 0, .ofNat 4)], [], [(0, .inl 1), (1, .inl 23), (2, .inr (false, (1, .ofNat 0)))], [], [(1, (0, .ofNat 3), .inr (false, (2, .ofNat 0))), (1, (0, .ofNat 7), .inr (false, (0, .ofNat 6)))], []), ((0, 1, .ofNat 200), (0, 0, .ofNat 0), (0, 0, .ofNat 0)), 0, 0)]
set_option maxRecDepth 1000000 in
theorem cv1611 {gh : sxGh} (hg : sxGd sxKw gh) : sxCtV sxKw gh ct1611 := sxMeB_ok (cts := [ct1596, ct1610]) (cuts := cu1611) (sp := []) 127 (by decide +kernel) hg (by decide) (by decide) (List.forall_mem_cons.mpr ⟨cv1596 hg, (List.forall_mem_cons.mpr ⟨cv1610 hg, (fun _ h => absurd h List.not_mem_nil)⟩)⟩)
/-- LotBeliefs.TongueReader.readSum -/
def ct1612 : sxCt := (108, 4, (1, [], [], [(0, .inl 1), (1, .inl 23)], [], [(1, (0, .ofNat 7), .inr (false, (0, .ofNat 6)))], []), [(1, 4), (1, 5), (1, 6), (1, 7), (1, 9), (1, 10), (23, 3), (24, 0)], [
  (2, [(1, .ofNat 0, .ofNat 4)], [], [], [], [(1, (0, .ofNat 3), .inr (false, (1, .ofNat 0))), (1, (0, .ofNat 7), .inr (false, (0, .ofNat 6)))], [])], [], 0, 0)
def cu1612 : List sxCu := [
  (7, (3, [(1, .ofNat 0, .ofNat 200), (2, .ofNat 0, .ofNat 4)], [], [(0, .inl 1), (1, .inl 23), (2, .inr (false, (1, .ofNat 0)))], [], [(1, (0, .ofNat 3), .inr (false, (2, .ofNat 0))), (1, (0, .ofNat 7), .inr (false, (0, .ofNat 6)))], []), ((0, 1, .ofNat 200), (0, 0, .ofNat 0), (0, 0, .ofNat 0)), 0, 0)]
set_option maxRecDepth 1000000 in
theorem cv1612 {gh : sxGh} (hg : sxGd sxKw gh) : sxCtV sxKw gh ct1612 := sxMeB_ok (cts := [ct1596, ct1611]) (cuts := cu1612) (sp := []) 285 (by decide +kernel) hg (by decide) (by decide) (List.forall_mem_cons.mpr ⟨cv1596 hg, (List.forall_mem_cons.mpr ⟨cv1611 hg, (fun _ h => absurd h List.not_mem_nil)⟩)⟩)
/-- LotBeliefs.TongueReader.readRelation -/
def ct1613 : sxCt := (107, 5, (1, [], [], [(0, .inl 1), (1, .inl 23)], [], [(1, (0, .ofNat 7), .inr (false, (0, .ofNat 6)))], []), [(1, 4), (1, 5), (1, 6), (1, 7), (1, 9), (1, 10), (23, 3), (24, 0)], [
  (3, [(1, .ofNat 0, .ofNat 4), (2, .ofNat 1, .ofNat 201)], [], [], [], [(1, (0, .ofNat 3), .inr (false, (1, .ofNat 0))), (1, (0, .ofNat 7), .inr (false, (0, .ofNat 6))), (23, (0, .ofNat 2), .inr (false, (2, .ofNat 0)))], [])], [], 0, 0)
def cu1613 : List sxCu := []
set_option maxRecDepth 1000000 in
theorem cv1613 {gh : sxGh} (hg : sxGd sxKw gh) : sxCtV sxKw gh ct1613 := sxMeB_ok (cts := [ct1596, ct1612]) (cuts := cu1613) (sp := []) 617 (by decide +kernel) hg (by decide) (by decide) (List.forall_mem_cons.mpr ⟨cv1596 hg, (List.forall_mem_cons.mpr ⟨cv1612 hg, (fun _ h => absurd h List.not_mem_nil)⟩)⟩)
/-- LotBeliefs.TongueReader.readPart -/
def ct1614 : sxCt := (106, 6, (1, [], [], [(0, .inl 1), (1, .inl 23)], [], [(1, (0, .ofNat 7), .inr (false, (0, .ofNat 6)))], []), [(1, 4), (1, 5), (1, 6), (1, 7), (1, 9), (1, 10), (23, 3), (24, 0)], [
  (2, [(1, .ofNat 0, .ofNat 4)], [], [], [], [(1, (0, .ofNat 3), .inr (false, (1, .ofNat 0))), (1, (0, .ofNat 7), .inr (false, (0, .ofNat 6)))], [])], [], 0, 0)
def cu1614 : List sxCu := []
set_option maxRecDepth 1000000 in
theorem cv1614 {gh : sxGh} (hg : sxGd sxKw gh) : sxCtV sxKw gh ct1614 := sxMeB_ok (cts := [ct1598, ct1613]) (cuts := cu1614) (sp := []) 158 (by decide +kernel) hg (by decide) (by decide) (List.forall_mem_cons.mpr ⟨cv1598 hg, (List.forall_mem_cons.mpr ⟨cv1613 hg, (fun _ h => absurd h List.not_mem_nil)⟩)⟩)
/-- LotBeliefs.Tape.isWord -/
def ct1615 : sxCt := (85, 0, (1, [], [], [(0, .inl 1), (1, .inl 1000026)], [], [], []), [], [
  (1, [], [], [], [.inr (false, (0, .ofNat 0))], [], []), 
  (1, [], [], [], [.inr (false, (0, .ofNat 1))], [], [])], [], 0, 0)
def cu1615 : List sxCu := []
set_option maxRecDepth 1000000 in
theorem cv1615 {gh : sxGh} (hg : sxGd sxKw gh) : sxCtV sxKw gh ct1615 := sxMeB_ok (cts := []) (cuts := cu1615) (sp := []) 174 (by decide +kernel) hg (by decide) (by decide) (fun _ h => absurd h List.not_mem_nil)
/-- LotBeliefs.TongueReader.readEach -/
def ct1616 : sxCt := (105, 7, (1, [], [], [(0, .inl 1), (1, .inl 23)], [], [(1, (0, .ofNat 7), .inr (false, (0, .ofNat 6)))], []), [(1, 4), (1, 5), (1, 6), (1, 7), (1, 9), (1, 10), (23, 3), (24, 0)], [
  (2, [(1, .ofNat 0, .ofNat 4)], [], [], [], [(1, (0, .ofNat 3), .inr (false, (1, .ofNat 0))), (1, (0, .ofNat 7), .inr (false, (0, .ofNat 6)))], [])], [], 0, 0)
def cu1616 : List sxCu := [
  (7, (3, [(1, .ofNat 0, .ofNat 200), (2, .ofNat 0, .ofNat 4)], [], [(0, .inl 1), (1, .inl 23), (2, .inr (false, (1, .ofNat 0)))], [], [(1, (0, .ofNat 3), .inr (false, (2, .ofNat 0))), (1, (0, .ofNat 7), .inr (false, (0, .ofNat 6)))], []), ((0, 1, .ofNat 200), (0, 0, .ofNat 0), (0, 0, .ofNat 0)), 0, 0)]
set_option maxRecDepth 1000000 in
theorem cv1616 {gh : sxGh} (hg : sxGd sxKw gh) : sxCtV sxKw gh ct1616 := sxMeB_ok (cts := [ct1596, ct1615, ct1614]) (cuts := cu1616) (sp := []) 111 (by decide +kernel) hg (by decide) (by decide) (List.forall_mem_cons.mpr ⟨cv1596 hg, (List.forall_mem_cons.mpr ⟨cv1615 hg, (List.forall_mem_cons.mpr ⟨cv1614 hg, (fun _ h => absurd h List.not_mem_nil)⟩)⟩)⟩)
/-- LotBeliefs.Tape.isWord -/
def ct1617 : sxCt := (85, 0, (1, [], [], [(0, .inl 1), (1, .inl 1000027)], [], [], []), [], [
  (1, [], [], [], [.inr (false, (0, .ofNat 0))], [], []), 
  (1, [], [], [], [.inr (false, (0, .ofNat 1))], [], [])], [], 0, 0)
def cu1617 : List sxCu := []
set_option maxRecDepth 1000000 in
theorem cv1617 {gh : sxGh} (hg : sxGd sxKw gh) : sxCtV sxKw gh ct1617 := sxMeB_ok (cts := []) (cuts := cu1617) (sp := []) 144 (by decide +kernel) hg (by decide) (by decide) (fun _ h => absurd h List.not_mem_nil)
/-- LotBeliefs.TongueReader.readEither -/
def ct1618 : sxCt := (104, 8, (1, [], [], [(0, .inl 1), (1, .inl 23)], [], [(1, (0, .ofNat 7), .inr (false, (0, .ofNat 6)))], []), [(1, 4), (1, 5), (1, 6), (1, 7), (1, 9), (1, 10), (23, 3), (24, 0)], [
  (2, [(1, .ofNat 0, .ofNat 4)], [], [], [], [(1, (0, .ofNat 3), .inr (false, (1, .ofNat 0))), (1, (0, .ofNat 7), .inr (false, (0, .ofNat 6)))], [])], [], 0, 0)
def cu1618 : List sxCu := [
  (7, (3, [(1, .ofNat 0, .ofNat 200), (2, .ofNat 0, .ofNat 4)], [], [(0, .inl 1), (1, .inl 23), (2, .inr (false, (1, .ofNat 0)))], [], [(1, (0, .ofNat 3), .inr (false, (2, .ofNat 0))), (1, (0, .ofNat 7), .inr (false, (0, .ofNat 6)))], []), ((0, 1, .ofNat 200), (0, 0, .ofNat 0), (0, 0, .ofNat 0)), 0, 0)]
set_option maxRecDepth 1000000 in
theorem cv1618 {gh : sxGh} (hg : sxGd sxKw gh) : sxCtV sxKw gh ct1618 := sxMeB_ok (cts := [ct1596, ct1617, ct1616]) (cuts := cu1618) (sp := []) 111 (by decide +kernel) hg (by decide) (by decide) (List.forall_mem_cons.mpr ⟨cv1596 hg, (List.forall_mem_cons.mpr ⟨cv1617 hg, (List.forall_mem_cons.mpr ⟨cv1616 hg, (fun _ h => absurd h List.not_mem_nil)⟩)⟩)⟩)
/-- LotBeliefs.TongueReader.readValue -/
def ct1619 : sxCt := (110, 5, (1, [], [], [(0, .inl 1), (1, .inl 23)], [], [(1, (0, .ofNat 7), .inr (false, (0, .ofNat 5)))], []), [(1, 4), (1, 5), (1, 6), (1, 7), (1, 8), (1, 9), (1, 10), (23, 3), (24, 0)], [
  (2, [(1, .ofNat 0, .ofNat 4)], [], [], [], [(1, (0, .ofNat 3), .inr (false, (1, .ofNat 0))), (1, (0, .ofNat 7), .inr (false, (0, .ofNat 5)))], [])], [], 0, 0)
def cu1619 : List sxCu := []
set_option maxRecDepth 1000000 in
theorem cv1619 {gh : sxGh} (hg : sxGd sxKw gh) : sxCtV sxKw gh ct1619 := sxMeB_ok (cts := [ct1596, ct1612, ct1609]) (cuts := cu1619) (sp := []) 583 (by decide +kernel) hg (by decide) (by decide) (List.forall_mem_cons.mpr ⟨cv1596 hg, (List.forall_mem_cons.mpr ⟨cv1612 hg, (List.forall_mem_cons.mpr ⟨cv1609 hg, (fun _ h => absurd h List.not_mem_nil)⟩)⟩)⟩)
/-- LotBeliefs.TongueReader.readProduct -/
def ct1620 : sxCt := (109, 6, (1, [], [], [(0, .inl 1), (1, .inl 23)], [], [(1, (0, .ofNat 7), .inr (false, (0, .ofNat 5)))], []), [(1, 4), (1, 5), (1, 6), (1, 7), (1, 8), (1, 9), (1, 10), (23, 3), (24, 0)], [
  (2, [(1, .ofNat 0, .ofNat 4)], [], [], [], [(1, (0, .ofNat 3), .inr (false, (1, .ofNat 0))), (1, (0, .ofNat 7), .inr (false, (0, .ofNat 5)))], [])], [], 0, 0)
def cu1620 : List sxCu := [
  (7, (3, [(1, .ofNat 0, .ofNat 200), (2, .ofNat 0, .ofNat 4)], [], [(0, .inl 1), (1, .inl 23), (2, .inr (false, (1, .ofNat 0)))], [], [(1, (0, .ofNat 3), .inr (false, (2, .ofNat 0))), (1, (0, .ofNat 7), .inr (false, (0, .ofNat 5)))], []), ((0, 1, .ofNat 200), (0, 0, .ofNat 0), (0, 0, .ofNat 0)), 0, 0)]
set_option maxRecDepth 1000000 in
theorem cv1620 {gh : sxGh} (hg : sxGd sxKw gh) : sxCtV sxKw gh ct1620 := sxMeB_ok (cts := [ct1596, ct1619]) (cuts := cu1620) (sp := []) 127 (by decide +kernel) hg (by decide) (by decide) (List.forall_mem_cons.mpr ⟨cv1596 hg, (List.forall_mem_cons.mpr ⟨cv1619 hg, (fun _ h => absurd h List.not_mem_nil)⟩)⟩)
/-- LotBeliefs.TongueReader.readSum -/
def ct1621 : sxCt := (108, 7, (1, [], [], [(0, .inl 1), (1, .inl 23)], [], [(1, (0, .ofNat 7), .inr (false, (0, .ofNat 5)))], []), [(1, 4), (1, 5), (1, 6), (1, 7), (1, 8), (1, 9), (1, 10), (23, 3), (24, 0)], [
  (2, [(1, .ofNat 0, .ofNat 4)], [], [], [], [(1, (0, .ofNat 3), .inr (false, (1, .ofNat 0))), (1, (0, .ofNat 7), .inr (false, (0, .ofNat 5)))], [])], [], 0, 0)
def cu1621 : List sxCu := [
  (7, (3, [(1, .ofNat 0, .ofNat 200), (2, .ofNat 0, .ofNat 4)], [], [(0, .inl 1), (1, .inl 23), (2, .inr (false, (1, .ofNat 0)))], [], [(1, (0, .ofNat 3), .inr (false, (2, .ofNat 0))), (1, (0, .ofNat 7), .inr (false, (0, .ofNat 5)))], []), ((0, 1, .ofNat 200), (0, 0, .ofNat 0), (0, 0, .ofNat 0)), 0, 0)]
set_option maxRecDepth 1000000 in
theorem cv1621 {gh : sxGh} (hg : sxGd sxKw gh) : sxCtV sxKw gh ct1621 := sxMeB_ok (cts := [ct1596, ct1620]) (cuts := cu1621) (sp := []) 285 (by decide +kernel) hg (by decide) (by decide) (List.forall_mem_cons.mpr ⟨cv1596 hg, (List.forall_mem_cons.mpr ⟨cv1620 hg, (fun _ h => absurd h List.not_mem_nil)⟩)⟩)
/-- LotBeliefs.TongueReader.readRelation -/
def ct1622 : sxCt := (107, 8, (1, [], [], [(0, .inl 1), (1, .inl 23)], [], [(1, (0, .ofNat 7), .inr (false, (0, .ofNat 5)))], []), [(1, 4), (1, 5), (1, 6), (1, 7), (1, 8), (1, 9), (1, 10), (23, 3), (24, 0)], [
  (3, [(1, .ofNat 0, .ofNat 4), (2, .ofNat 1, .ofNat 201)], [], [], [], [(1, (0, .ofNat 3), .inr (false, (1, .ofNat 0))), (1, (0, .ofNat 7), .inr (false, (0, .ofNat 5))), (23, (0, .ofNat 2), .inr (false, (2, .ofNat 0)))], [])], [], 0, 0)
def cu1622 : List sxCu := []
set_option maxRecDepth 1000000 in
theorem cv1622 {gh : sxGh} (hg : sxGd sxKw gh) : sxCtV sxKw gh ct1622 := sxMeB_ok (cts := [ct1596, ct1621]) (cuts := cu1622) (sp := []) 617 (by decide +kernel) hg (by decide) (by decide) (List.forall_mem_cons.mpr ⟨cv1596 hg, (List.forall_mem_cons.mpr ⟨cv1621 hg, (fun _ h => absurd h List.not_mem_nil)⟩)⟩)
/-- LotBeliefs.TongueReader.readPart -/
def ct1623 : sxCt := (106, 9, (1, [], [], [(0, .inl 1), (1, .inl 23)], [], [(1, (0, .ofNat 7), .inr (false, (0, .ofNat 5)))], []), [(1, 4), (1, 5), (1, 6), (1, 7), (1, 8), (1, 9), (1, 10), (23, 3), (24, 0)], [
  (2, [(1, .ofNat 0, .ofNat 4)], [], [], [], [(1, (0, .ofNat 3), .inr (false, (1, .ofNat 0))), (1, (0, .ofNat 7), .inr (false, (0, .ofNat 5)))], [])], [], 0, 0)
def cu1623 : List sxCu := []
set_option maxRecDepth 1000000 in
theorem cv1623 {gh : sxGh} (hg : sxGd sxKw gh) : sxCtV sxKw gh ct1623 := sxMeB_ok (cts := [ct1596, ct1598, ct1618, ct1614, ct1622]) (cuts := cu1623) (sp := []) 290 (by decide +kernel) hg (by decide) (by decide) (List.forall_mem_cons.mpr ⟨cv1596 hg, (List.forall_mem_cons.mpr ⟨cv1598 hg, (List.forall_mem_cons.mpr ⟨cv1618 hg, (List.forall_mem_cons.mpr ⟨cv1614 hg, (List.forall_mem_cons.mpr ⟨cv1622 hg, (fun _ h => absurd h List.not_mem_nil)⟩)⟩)⟩)⟩)⟩)
/-- LotBeliefs.TongueReader.readEach -/
def ct1624 : sxCt := (105, 10, (1, [], [], [(0, .inl 1), (1, .inl 23)], [], [(1, (0, .ofNat 7), .inr (false, (0, .ofNat 5)))], []), [(1, 4), (1, 5), (1, 6), (1, 7), (1, 8), (1, 9), (1, 10), (23, 3), (24, 0)], [
  (2, [(1, .ofNat 0, .ofNat 4)], [], [], [], [(1, (0, .ofNat 3), .inr (false, (1, .ofNat 0))), (1, (0, .ofNat 7), .inr (false, (0, .ofNat 5)))], [])], [], 0, 0)
def cu1624 : List sxCu := [
  (7, (3, [(1, .ofNat 0, .ofNat 200), (2, .ofNat 0, .ofNat 4)], [], [(0, .inl 1), (1, .inl 23), (2, .inr (false, (1, .ofNat 0)))], [], [(1, (0, .ofNat 3), .inr (false, (2, .ofNat 0))), (1, (0, .ofNat 7), .inr (false, (0, .ofNat 5)))], []), ((0, 1, .ofNat 200), (0, 0, .ofNat 0), (0, 0, .ofNat 0)), 0, 0)]
set_option maxRecDepth 1000000 in
theorem cv1624 {gh : sxGh} (hg : sxGd sxKw gh) : sxCtV sxKw gh ct1624 := sxMeB_ok (cts := [ct1596, ct1615, ct1623]) (cuts := cu1624) (sp := []) 111 (by decide +kernel) hg (by decide) (by decide) (List.forall_mem_cons.mpr ⟨cv1596 hg, (List.forall_mem_cons.mpr ⟨cv1615 hg, (List.forall_mem_cons.mpr ⟨cv1623 hg, (fun _ h => absurd h List.not_mem_nil)⟩)⟩)⟩)
/-- LotBeliefs.TongueReader.readEither -/
def ct1625 : sxCt := (104, 11, (1, [], [], [(0, .inl 1), (1, .inl 23)], [], [(1, (0, .ofNat 7), .inr (false, (0, .ofNat 5)))], []), [(1, 4), (1, 5), (1, 6), (1, 7), (1, 8), (1, 9), (1, 10), (23, 3), (24, 0)], [
  (2, [(1, .ofNat 0, .ofNat 4)], [], [], [], [(1, (0, .ofNat 3), .inr (false, (1, .ofNat 0))), (1, (0, .ofNat 7), .inr (false, (0, .ofNat 5)))], [])], [], 0, 0)
def cu1625 : List sxCu := [
  (7, (3, [(1, .ofNat 0, .ofNat 200), (2, .ofNat 0, .ofNat 4)], [], [(0, .inl 1), (1, .inl 23), (2, .inr (false, (1, .ofNat 0)))], [], [(1, (0, .ofNat 3), .inr (false, (2, .ofNat 0))), (1, (0, .ofNat 7), .inr (false, (0, .ofNat 5)))], []), ((0, 1, .ofNat 200), (0, 0, .ofNat 0), (0, 0, .ofNat 0)), 0, 0)]
set_option maxRecDepth 1000000 in
theorem cv1625 {gh : sxGh} (hg : sxGd sxKw gh) : sxCtV sxKw gh ct1625 := sxMeB_ok (cts := [ct1596, ct1617, ct1624]) (cuts := cu1625) (sp := []) 111 (by decide +kernel) hg (by decide) (by decide) (List.forall_mem_cons.mpr ⟨cv1596 hg, (List.forall_mem_cons.mpr ⟨cv1617 hg, (List.forall_mem_cons.mpr ⟨cv1624 hg, (fun _ h => absurd h List.not_mem_nil)⟩)⟩)⟩)
/-- LotBeliefs.TongueReader.readValue -/
def ct1626 : sxCt := (110, 8, (1, [], [], [(0, .inl 1), (1, .inl 23)], [], [(1, (0, .ofNat 7), .inr (false, (0, .ofNat 4)))], []), [(1, 4), (1, 5), (1, 6), (1, 7), (1, 8), (1, 9), (1, 10), (23, 3), (24, 0)], [
  (2, [(1, .ofNat 0, .ofNat 4)], [], [], [], [(1, (0, .ofNat 3), .inr (false, (1, .ofNat 0))), (1, (0, .ofNat 7), .inr (false, (0, .ofNat 4)))], [])], [], 0, 0)
def cu1626 : List sxCu := []
set_option maxRecDepth 1000000 in
theorem cv1626 {gh : sxGh} (hg : sxGd sxKw gh) : sxCtV sxKw gh ct1626 := sxMeB_ok (cts := [ct1596, ct1621, ct1609]) (cuts := cu1626) (sp := []) 583 (by decide +kernel) hg (by decide) (by decide) (List.forall_mem_cons.mpr ⟨cv1596 hg, (List.forall_mem_cons.mpr ⟨cv1621 hg, (List.forall_mem_cons.mpr ⟨cv1609 hg, (fun _ h => absurd h List.not_mem_nil)⟩)⟩)⟩)
/-- LotBeliefs.TongueReader.readProduct -/
def ct1627 : sxCt := (109, 9, (1, [], [], [(0, .inl 1), (1, .inl 23)], [], [(1, (0, .ofNat 7), .inr (false, (0, .ofNat 4)))], []), [(1, 4), (1, 5), (1, 6), (1, 7), (1, 8), (1, 9), (1, 10), (23, 3), (24, 0)], [
  (2, [(1, .ofNat 0, .ofNat 4)], [], [], [], [(1, (0, .ofNat 3), .inr (false, (1, .ofNat 0))), (1, (0, .ofNat 7), .inr (false, (0, .ofNat 4)))], [])], [], 0, 0)
def cu1627 : List sxCu := [
  (7, (3, [(1, .ofNat 0, .ofNat 200), (2, .ofNat 0, .ofNat 4)], [], [(0, .inl 1), (1, .inl 23), (2, .inr (false, (1, .ofNat 0)))], [], [(1, (0, .ofNat 3), .inr (false, (2, .ofNat 0))), (1, (0, .ofNat 7), .inr (false, (0, .ofNat 4)))], []), ((0, 1, .ofNat 200), (0, 0, .ofNat 0), (0, 0, .ofNat 0)), 0, 0)]
set_option maxRecDepth 1000000 in
theorem cv1627 {gh : sxGh} (hg : sxGd sxKw gh) : sxCtV sxKw gh ct1627 := sxMeB_ok (cts := [ct1596, ct1626]) (cuts := cu1627) (sp := []) 127 (by decide +kernel) hg (by decide) (by decide) (List.forall_mem_cons.mpr ⟨cv1596 hg, (List.forall_mem_cons.mpr ⟨cv1626 hg, (fun _ h => absurd h List.not_mem_nil)⟩)⟩)
/-- LotBeliefs.TongueReader.readSum -/
def ct1628 : sxCt := (108, 10, (1, [], [], [(0, .inl 1), (1, .inl 23)], [], [(1, (0, .ofNat 7), .inr (false, (0, .ofNat 4)))], []), [(1, 4), (1, 5), (1, 6), (1, 7), (1, 8), (1, 9), (1, 10), (23, 3), (24, 0)], [
  (2, [(1, .ofNat 0, .ofNat 4)], [], [], [], [(1, (0, .ofNat 3), .inr (false, (1, .ofNat 0))), (1, (0, .ofNat 7), .inr (false, (0, .ofNat 4)))], [])], [], 0, 0)
def cu1628 : List sxCu := [
  (7, (3, [(1, .ofNat 0, .ofNat 200), (2, .ofNat 0, .ofNat 4)], [], [(0, .inl 1), (1, .inl 23), (2, .inr (false, (1, .ofNat 0)))], [], [(1, (0, .ofNat 3), .inr (false, (2, .ofNat 0))), (1, (0, .ofNat 7), .inr (false, (0, .ofNat 4)))], []), ((0, 1, .ofNat 200), (0, 0, .ofNat 0), (0, 0, .ofNat 0)), 0, 0)]
set_option maxRecDepth 1000000 in
theorem cv1628 {gh : sxGh} (hg : sxGd sxKw gh) : sxCtV sxKw gh ct1628 := sxMeB_ok (cts := [ct1596, ct1627]) (cuts := cu1628) (sp := []) 285 (by decide +kernel) hg (by decide) (by decide) (List.forall_mem_cons.mpr ⟨cv1596 hg, (List.forall_mem_cons.mpr ⟨cv1627 hg, (fun _ h => absurd h List.not_mem_nil)⟩)⟩)
end SXC
