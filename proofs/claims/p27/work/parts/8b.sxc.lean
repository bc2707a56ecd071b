/-! SX: contracts, by program -/
section SXC
/-- LotBeliefsModel.oneOf -/
def ct133 : sxCt := (219, 10, (3, [(1, .ofNat 0, .ofNat 4), (2, .ofNat 0, .ofNat 600)], [], [(0, .inl 78)], [], [(78, (0, .ofNat 8), .inr (false, (0, .ofNat 4))), (78, (0, .ofNat 5), .inr (false, (1, .ofNat 0))), (78, (0, .ofNat 4), .inr (false, (2, .ofNat 0)))], [], []), [(78, 5), (78, 6), (78, 7), (78, 9), (579, 5)], [
  (6, [(3, .negSucc 9223372036854775807, .ofNat 9223372036854775807), (4, .ofNat 0, .ofNat 600), (5, .ofNat 1, .ofNat 4)], [(1, 5, .ofNat 0), (2, 4, .ofNat 0)], [], [.inr (true, (3, .ofNat 0))], [(78, (0, .ofNat 4), .inr (false, (4, .ofNat 0))), (78, (0, .ofNat 5), .inr (false, (5, .ofNat 0))), (78, (0, .ofNat 8), .inr (false, (0, .ofNat 4)))], [], []), 
  (5, [(1, .ofNat 0, .ofNat 0), (2, .ofNat 0, .ofNat 599), (3, .negSucc 9223372036854775807, .ofNat 9223372036854775807), (4, .ofNat 1, .ofNat 600)], [(2, 4, .negSucc 0)], [], [.inr (true, (3, .ofNat 0))], [(78, (0, .ofNat 4), .inr (false, (4, .ofNat 0))), (78, (0, .ofNat 5), .inr (false, (0, .ofNat 0))), (78, (0, .ofNat 8), .inr (false, (0, .ofNat 4)))], [], [])], [], 0, 0)
def cu133 : List sxCu := []
set_option maxRecDepth 1000000 in
theorem cv133 {gh : sxGh} (hg : sxGd sxKw gh) : sxCtV sxKw gh ct133 := sxMeB_ok (cts := [ct112, ct114, ct116, ct118, ct115, ct129, ct119, ct120, ct132, ct130]) (cuts := cu133) (sp := []) 1605 (by decide +kernel) hg (by decide) (by decide) (List.forall_mem_cons.mpr ⟨cv112 hg, (List.forall_mem_cons.mpr ⟨cv114 hg, (List.forall_mem_cons.mpr ⟨cv116 hg, (List.forall_mem_cons.mpr ⟨cv118 hg, (List.forall_mem_cons.mpr ⟨cv115 hg, (List.forall_mem_cons.mpr ⟨cv129 hg, (List.forall_mem_cons.mpr ⟨cv119 hg, (List.forall_mem_cons.mpr ⟨cv120 hg, (List.forall_mem_cons.mpr ⟨cv132 hg, (List.forall_mem_cons.mpr ⟨cv130 hg, (fun _ h => absurd h List.not_mem_nil)⟩)⟩)⟩)⟩)⟩)⟩)⟩)⟩)⟩)⟩)
/-- LotBeliefsModel.eachOf -/
def ct134 : sxCt := (218, 11, (3, [(1, .ofNat 0, .ofNat 4), (2, .ofNat 0, .ofNat 600)], [], [(0, .inl 78)], [], [(78, (0, .ofNat 8), .inr (false, (0, .ofNat 4))), (78, (0, .ofNat 5), .inr (false, (1, .ofNat 0))), (78, (0, .ofNat 4), .inr (false, (2, .ofNat 0)))], [], []), [(78, 5), (78, 6), (78, 7), (78, 9), (579, 5)], [
  (5, [(1, .ofNat 0, .ofNat 0), (2, .ofNat 0, .ofNat 599), (3, .negSucc 9223372036854775807, .ofNat 9223372036854775807), (4, .ofNat 1, .ofNat 600)], [(2, 4, .negSucc 0)], [], [.inr (true, (3, .ofNat 0))], [(78, (0, .ofNat 4), .inr (false, (4, .ofNat 0))), (78, (0, .ofNat 5), .inr (false, (0, .ofNat 0))), (78, (0, .ofNat 8), .inr (false, (0, .ofNat 4)))], [], []), 
  (6, [(3, .negSucc 9223372036854775807, .ofNat 9223372036854775807), (4, .ofNat 0, .ofNat 600), (5, .ofNat 1, .ofNat 4)], [(1, 5, .ofNat 0), (2, 4, .ofNat 0)], [], [.inr (true, (3, .ofNat 0))], [(78, (0, .ofNat 4), .inr (false, (4, .ofNat 0))), (78, (0, .ofNat 5), .inr (false, (5, .ofNat 0))), (78, (0, .ofNat 8), .inr (false, (0, .ofNat 4)))], [], [])], [], 0, 0)
def cu134 : List sxCu := [
  (5, (6, [(1, .ofNat 0, .ofNat 4), (2, .ofNat 0, .ofNat 600), (3, .negSucc 9223372036854775807, .ofNat 9223372036854775807), (4, .ofNat 0, .ofNat 600), (5, .ofNat 1, .ofNat 4)], [(1, 5, .ofNat 0), (2, 4, .ofNat 0)], [(0, .inl 78), (1, .inr (true, (3, .ofNat 0)))], [], [(78, (0, .ofNat 4), .inr (false, (4, .ofNat 0))), (78, (0, .ofNat 5), .inr (false, (5, .ofNat 0))), (78, (0, .ofNat 8), .inr (false, (0, .ofNat 4)))], [], []), ((0, 4, .ofNat 600), (0, 0, .ofNat 0), (0, 0, .ofNat 0)), 0, 0), 
  (5, (5, [(1, .ofNat 0, .ofNat 0), (2, .ofNat 0, .ofNat 599), (3, .negSucc 9223372036854775807, .ofNat 9223372036854775807), (4, .ofNat 1, .ofNat 600)], [(2, 4, .negSucc 0)], [(0, .inl 78), (1, .inr (true, (3, .ofNat 0)))], [], [(78, (0, .ofNat 4), .inr (false, (4, .ofNat 0))), (78, (0, .ofNat 5), .inr (false, (0, .ofNat 0))), (78, (0, .ofNat 8), .inr (false, (0, .ofNat 4)))], [], []), ((0, 4, .ofNat 600), (0, 0, .ofNat 0), (0, 0, .ofNat 0)), 0, 0)]
set_option maxRecDepth 1000000 in
theorem cv134 {gh : sxGh} (hg : sxGd sxKw gh) : sxCtV sxKw gh ct134 := sxMeB_ok (cts := [ct123, ct133]) (cuts := cu134) (sp := []) 100 (by decide +kernel) hg (by decide) (by decide) (List.forall_mem_cons.mpr ⟨cv123 hg, (List.forall_mem_cons.mpr ⟨cv133 hg, (fun _ h => absurd h List.not_mem_nil)⟩)⟩)
/-- LotBeliefsModel.anyOf -/
def ct135 : sxCt := (217, 12, (3, [(1, .ofNat 0, .ofNat 4), (2, .ofNat 0, .ofNat 600)], [], [(0, .inl 78)], [], [(78, (0, .ofNat 8), .inr (false, (0, .ofNat 4))), (78, (0, .ofNat 5), .inr (false, (1, .ofNat 0))), (78, (0, .ofNat 4), .inr (false, (2, .ofNat 0)))], [], []), [(78, 5), (78, 6), (78, 7), (78, 9), (579, 5)], [
  (6, [(3, .negSucc 9223372036854775807, .ofNat 9223372036854775807), (4, .ofNat 0, .ofNat 600), (5, .ofNat 1, .ofNat 4)], [(1, 5, .ofNat 0), (2, 4, .ofNat 0)], [], [.inr (true, (3, .ofNat 0))], [(78, (0, .ofNat 4), .inr (false, (4, .ofNat 0))), (78, (0, .ofNat 5), .inr (false, (5, .ofNat 0))), (78, (0, .ofNat 8), .inr (false, (0, .ofNat 4)))], [], []), 
  (5, [(1, .ofNat 0, .ofNat 0), (2, .ofNat 0, .ofNat 599), (3, .negSucc 9223372036854775807, .ofNat 9223372036854775807), (4, .ofNat 1, .ofNat 600)], [(2, 4, .negSucc 0)], [], [.inr (true, (3, .ofNat 0))], [(78, (0, .ofNat 4), .inr (false, (4, .ofNat 0))), (78, (0, .ofNat 5), .inr (false, (0, .ofNat 0))), (78, (0, .ofNat 8), .inr (false, (0, .ofNat 4)))], [], [])], [], 0, 0)
def cu135 : List sxCu := [
  (5, (6, [(1, .ofNat 0, .ofNat 4), (2, .ofNat 0, .ofNat 600), (3, .negSucc 9223372036854775807, .ofNat 9223372036854775807), (4, .ofNat 0, .ofNat 600), (5, .ofNat 1, .ofNat 4)], [(1, 5, .ofNat 0), (2, 4, .ofNat 0)], [(0, .inl 78), (1, .inr (true, (3, .ofNat 0)))], [], [(78, (0, .ofNat 4), .inr (false, (4, .ofNat 0))), (78, (0, .ofNat 5), .inr (false, (5, .ofNat 0))), (78, (0, .ofNat 8), .inr (false, (0, .ofNat 4)))], [], []), ((0, 4, .ofNat 600), (0, 0, .ofNat 0), (0, 0, .ofNat 0)), 0, 0), 
  (5, (5, [(1, .ofNat 0, .ofNat 0), (2, .ofNat 0, .ofNat 599), (3, .negSucc 9223372036854775807, .ofNat 9223372036854775807), (4, .ofNat 1, .ofNat 600)], [(2, 4, .negSucc 0)], [(0, .inl 78), (1, .inr (true, (3, .ofNat 0)))], [], [(78, (0, .ofNat 4), .inr (false, (4, .ofNat 0))), (78, (0, .ofNat 5), .inr (false, (0, .ofNat 0))), (78, (0, .ofNat 8), .inr (false, (0, .ofNat 4)))], [], []), ((0, 4, .ofNat 600), (0, 0, .ofNat 0), (0, 0, .ofNat 0)), 0, 0)]
set_option maxRecDepth 1000000 in
theorem cv135 {gh : sxGh} (hg : sxGd sxKw gh) : sxCtV sxKw gh ct135 := sxMeB_ok (cts := [ct126, ct134]) (cuts := cu135) (sp := []) 100 (by decide +kernel) hg (by decide) (by decide) (List.forall_mem_cons.mpr ⟨cv126 hg, (List.forall_mem_cons.mpr ⟨cv134 hg, (fun _ h => absurd h List.not_mem_nil)⟩)⟩)
/-- LotBeliefsModel.oneOf -/
def ct136 : sxCt := (219, 13, (3, [(1, .ofNat 0, .ofNat 4), (2, .ofNat 0, .ofNat 600)], [], [(0, .inl 78)], [], [(78, (0, .ofNat 8), .inr (false, (0, .ofNat 3))), (78, (0, .ofNat 5), .inr (false, (1, .ofNat 0))), (78, (0, .ofNat 4), .inr (false, (2, .ofNat 0)))], [], []), [(78, 5), (78, 6), (78, 7), (78, 9), (579, 5)], [
  (6, [(3, .negSucc 9223372036854775807, .ofNat 9223372036854775807), (4, .ofNat 0, .ofNat 600), (5, .ofNat 1, .ofNat 4)], [(1, 5, .ofNat 0), (2, 4, .ofNat 0)], [], [.inr (true, (3, .ofNat 0))], [(78, (0, .ofNat 4), .inr (false, (4, .ofNat 0))), (78, (0, .ofNat 5), .inr (false, (5, .ofNat 0))), (78, (0, .ofNat 8), .inr (false, (0, .ofNat 3)))], [], []), 
  (5, [(1, .ofNat 0, .ofNat 0), (2, .ofNat 0, .ofNat 599), (3, .negSucc 9223372036854775807, .ofNat 9223372036854775807), (4, .ofNat 1, .ofNat 600)], [(2, 4, .negSucc 0)], [], [.inr (true, (3, .ofNat 0))], [(78, (0, .ofNat 4), .inr (false, (4, .ofNat 0))), (78, (0, .ofNat 5), .inr (false, (0, .ofNat 0))), (78, (0, .ofNat 8), .inr (false, (0, .ofNat 3)))], [], [])], [], 0, 0)
def cu136 : List sxCu := []
set_option maxRecDepth 1000000 in
theorem cv136 {gh : sxGh} (hg : sxGd sxKw gh) : sxCtV sxKw gh ct136 := sxMeB_ok (cts := [ct112, ct114, ct116, ct118, ct115, ct129, ct119, ct120, ct135, ct133]) (cuts := cu136) (sp := []) 1605 (by decide +kernel) hg (by decide) (by decide) (List.forall_mem_cons.mpr ⟨cv112 hg, (List.forall_mem_cons.mpr ⟨cv114 hg, (List.forall_mem_cons.mpr ⟨cv116 hg, (List.forall_mem_cons.mpr ⟨cv118 hg, (List.forall_mem_cons.mpr ⟨cv115 hg, (List.forall_mem_cons.mpr ⟨cv129 hg, (List.forall_mem_cons.mpr ⟨cv119 hg, (List.forall_mem_cons.mpr ⟨cv120 hg, (List.forall_mem_cons.mpr ⟨cv135 hg, (List.forall_mem_cons.mpr ⟨cv133 hg, (fun _ h => absurd h List.not_mem_nil)⟩)⟩)⟩)⟩)⟩)⟩)⟩)⟩)⟩)⟩)
/-- LotBeliefsModel.eachOf -/
def ct137 : sxCt := (218, 14, (3, [(1, .ofNat 0, .ofNat 4), (2, .ofNat 0, .ofNat 600)], [], [(0, .inl 78)], [], [(78, (0, .ofNat 8), .inr (false, (0, .ofNat 3))), (78, (0, .ofNat 5), .inr (false, (1, .ofNat 0))), (78, (0, .ofNat 4), .inr (false, (2, .ofNat 0)))], [], []), [(78, 5), (78, 6), (78, 7), (78, 9), (579, 5)], [
  (5, [(1, .ofNat 0, .ofNat 0), (2, .ofNat 0, .ofNat 599), (3, .negSucc 9223372036854775807, .ofNat 9223372036854775807), (4, .ofNat 1, .ofNat 600)], [(2, 4, .negSucc 0)], [], [.inr (true, (3, .ofNat 0))], [(78, (0, .ofNat 4), .inr (false, (4, .ofNat 0))), (78, (0, .ofNat 5), .inr (false, (0, .ofNat 0))), (78, (0, .ofNat 8), .inr (false, (0, .ofNat 3)))], [], []), 
  (6, [(3, .negSucc 9223372036854775807, .ofNat 9223372036854775807), (4, .ofNat 0, .ofNat 600), (5, .ofNat 1, .ofNat 4)], [(1, 5, .ofNat 0), (2, 4, .ofNat 0)], [], [.inr (true, (3, .ofNat 0))], [(78, (0, .ofNat 4), .inr (false, (4, .ofNat 0))), (78, (0, .ofNat 5), .inr (false, (5, .ofNat 0))), (78, (0, .ofNat 8), .inr (false, (0, .ofNat 3)))], [], [])], [], 0, 0)
def cu137 : List sxCu := [
  (5, (6, [(1, .ofNat 0, .ofNat 4), (2, .ofNat 0, .ofNat 600), (3, .negSucc 9223372036854775807, .ofNat 9223372036854775807), (4, .ofNat 0, .ofNat 600), (5, .ofNat 1, .ofNat 4)], [(1, 5, .ofNat 0), (2, 4, .ofNat 0)], [(0, .inl 78), (1, .inr (true, (3, .ofNat 0)))], [], [(78, (0, .ofNat 4), .inr (false, (4, .ofNat 0))), (78, (0, .ofNat 5), .inr (false, (5, .ofNat 0))), (78, (0, .ofNat 8), .inr (false, (0, .ofNat 3)))], [], []), ((0, 4, .ofNat 600), (0, 0, .ofNat 0), (0, 0, .ofNat 0)), 0, 0), 
  (5, (5, [(1, .ofNat 0, .ofNat 0), (2, .ofNat 0, .ofNat 599), (3, .negSucc 9223372036854775807, .ofNat 9223372036854775807), (4, .ofNat 1, .ofNat 600)], [(2, 4, .negSucc 0)], [(0, .inl 78), (1, .inr (true, (3, .ofNat 0)))], [], [(78, (0, .ofNat 4), .inr (false, (4, .ofNat 0))), (78, (0, .ofNat 5), .inr (false, (0, .ofNat 0))), (78, (0, .ofNat 8), .inr (false, (0, .ofNat 3)))], [], []), ((0, 4, .ofNat 600), (0, 0, .ofNat 0), (0, 0, .ofNat 0)), 0, 0)]
set_option maxRecDepth 1000000 in
theorem cv137 {gh : sxGh} (hg : sxGd sxKw gh) : sxCtV sxKw gh ct137 := sxMeB_ok (cts := [ct123, ct136]) (cuts := cu137) (sp := []) 100 (by decide +kernel) hg (by decide) (by decide) (List.forall_mem_cons.mpr ⟨cv123 hg, (List.forall_mem_cons.mpr ⟨cv136 hg, (fun _ h => absurd h List.not_mem_nil)⟩)⟩)
/-- LotBeliefsModel.anyOf -/
def ct138 : sxCt := (217, 15, (3, [(1, .ofNat 0, .ofNat 4), (2, .ofNat 0, .ofNat 600)], [], [(0, .inl 78)], [], [(78, (0, .ofNat 8), .inr (false, (0, .ofNat 3))), (78, (0, .ofNat 5), .inr (false, (1, .ofNat 0))), (78, (0, .ofNat 4), .inr (false, (2, .ofNat 0)))], [], []), [(78, 5), (78, 6), (78, 7), (78, 9), (579, 5)], [
  (6, [(3, .negSucc 9223372036854775807, .ofNat 9223372036854775807), (4, .ofNat 0, .ofNat 600), (5, .ofNat 1, .ofNat 4)], [(1, 5, .ofNat 0), (2, 4, .ofNat 0)], [], [.inr (true, (3, .ofNat 0))], [(78, (0, .ofNat 4), .inr (false, (4, .ofNat 0))), (78, (0, .ofNat 5), .inr (false, (5, .ofNat 0))), (78, (0, .ofNat 8), .inr (false, (0, .ofNat 3)))], [], []), 
  (5, [(1, .ofNat 0, .ofNat 0), (2, .ofNat 0, .ofNat 599), (3, .negSucc 9223372036854775807, .ofNat 9223372036854775807), (4, .ofNat 1, .ofNat 600)], [(2, 4, .negSucc 0)], [], [.inr (true, (3, .ofNat 0))], [(78, (0, .ofNat 4), .inr (false, (4, .ofNat 0))), (78, (0, .ofNat 5), .inr (false, (0, .ofNat 0))), (78, (0, .ofNat 8), .inr (false, (0, .ofNat 3)))], [], [])], [], 0, 0)
def cu138 : List sxCu := [
  (5, (6, [(1, .ofNat 0, .ofNat 4), (2, .ofNat 0, .ofNat 600), (3, .negSucc 9223372036854775807, .ofNat 9223372036854775807), (4, .ofNat 0, .ofNat 600), (5, .ofNat 1, .ofNat 4)], [(1, 5, .ofNat 0), (2, 4, .ofNat 0)], [(0, .inl 78), (1, .inr (true, (3, .ofNat 0)))], [], [(78, (0, .ofNat 4), .inr (false, (4, .ofNat 0))), (78, (0, .ofNat 5), .inr (false, (5, .ofNat 0))), (78, (0, .ofNat 8), .inr (false, (0, .ofNat 3)))], [], []), ((0, 4, .ofNat 600), (0, 0, .ofNat 0), (0, 0, .ofNat 0)), 0, 0), 
  (5, (5, [(1, .ofNat 0, .ofNat 0), (2, .ofNat 0, .ofNat 599), (3, .negSucc 9223372036854775807, .ofNat 9223372036854775807), (4, .ofNat 1, .ofNat 600)], [(2, 4, .negSucc 0)], [(0, .inl 78), (1, .inr (true, (3, .ofNat 0)))], [], [(78, (0, .ofNat 4), .inr (false, (4, .ofNat 0))), (78, (0, .ofNat 5), .inr (false, (0, .ofNat 0))), (78, (0, .ofNat 8), .inr (false, (0, .ofNat 3)))], [], []), ((0, 4, .ofNat 600), (0, 0, .ofNat 0), (0, 0, .ofNat 0)), 0, 0)]
set_option maxRecDepth 1000000 in
theorem cv138 {gh : sxGh} (hg : sxGd sxKw gh) : sxCtV sxKw gh ct138 := sxMeB_ok (cts := [ct126, ct137]) (cuts := cu138) (sp := []) 100 (by decide +kernel) hg (by decide) (by decide) (List.forall_mem_cons.mpr ⟨cv126 hg, (List.forall_mem_cons.mpr ⟨cv137 hg, (fun _ h => absurd h List.not_mem_nil)⟩)⟩)
/-- LotBeliefsModel.oneOf -/
def ct139 : sxCt := (219, 16, (3, [(1, .ofNat 0, .ofNat 4), (2, .ofNat 0, .ofNat 600)], [], [(0, .inl 78)], [], [(78, (0, .ofNat 8), .inr (false, (0, .ofNat 2))), (78, (0, .ofNat 5), .inr (false, (1, .ofNat 0))), (78, (0, .ofNat 4), .inr (false, (2, .ofNat 0)))], [], []), [(78, 5), (78, 6), (78, 7), (78, 9), (579, 5)], [
  (6, [(3, .negSucc 9223372036854775807, .ofNat 9223372036854775807), (4, .ofNat 0, .ofNat 600), (5, .ofNat 1, .ofNat 4)], [(1, 5, .ofNat 0), (2, 4, .ofNat 0)], [], [.inr (true, (3, .ofNat 0))], [(78, (0, .ofNat 4), .inr (false, (4, .ofNat 0))), (78, (0, .ofNat 5), .inr (false, (5, .ofNat 0))), (78, (0, .ofNat 8), .inr (false, (0, .ofNat 2)))], [], []), 
  (5, [(1, .ofNat 0, .ofNat 0), (2, .ofNat 0, .ofNat 599), (3, .negSucc 9223372036854775807, .ofNat 9223372036854775807), (4, .ofNat 1, .ofNat 600)], [(2, 4, .negSucc 0)], [], [.inr (true, (3, .ofNat 0))], [(78, (0, .ofNat 4), .inr (false, (4, .ofNat 0))), (78, (0, .ofNat 5), .inr (false, (0, .ofNat 0))), (78, (0, .ofNat 8), .inr (false, (0, .ofNat 2)))], [], [])], [], 0, 0)
def cu139 : List sxCu := []
set_option maxRecDepth 1000000 in
theorem cv139 {gh : sxGh} (hg : sxGd sxKw gh) : sxCtV sxKw gh ct139 := sxMeB_ok (cts := [ct112, ct114, ct116, ct118, ct115, ct129, ct119, ct120, ct138, ct136]) (cuts := cu139) (sp := []) 1605 (by decide +kernel) hg (by decide) (by decide) (List.forall_mem_cons.mpr ⟨cv112 hg, (List.forall_mem_cons.mpr ⟨cv114 hg, (List.forall_mem_cons.mpr ⟨cv116 hg, (List.forall_mem_cons.mpr ⟨cv118 hg, (List.forall_mem_cons.mpr ⟨cv115 hg, (List.forall_mem_cons.mpr ⟨cv129 hg, (List.forall_mem_cons.mpr ⟨cv119 hg, (List.forall_mem_cons.mpr ⟨cv120 hg, (List.forall_mem_cons.mpr ⟨cv138 hg, (List.forall_mem_cons.mpr ⟨cv136 hg, (fun _ h => absurd h List.not_mem_nil)⟩)⟩)⟩)⟩)⟩)⟩)⟩)⟩)⟩)⟩)
/-- LotBeliefsModel.eachOf -/
def ct140 : sxCt := (218, 17, (3, [(1, .ofNat 0, .ofNat 4), (2, .ofNat 0, .ofNat 600)], [], [(0, .inl 78)], [], [(78, (0, .ofNat 8), .inr (false, (0, .ofNat 2))), (78, (0, .ofNat 5), .inr (false, (1, .ofNat 0))), (78, (0, .ofNat 4), .inr (false, (2, .ofNat 0)))], [], []), [(78, 5), (78, 6), (78, 7), (78, 9), (579, 5)], [
  (5, [(1, .ofNat 0, .ofNat 0), (2, .ofNat 0, .ofNat 599), (3, .negSucc 9223372036854775807, .ofNat 9223372036854775807), (4, .ofNat 1, .ofNat 600)], [(2, 4, .negSucc 0)], [], [.inr (true, (3, .ofNat 0))], [(78, (0, .ofNat 4), .inr (false, (4, .ofNat 0))), (78, (0, .ofNat 5), .inr (false, (0, .ofNat 0))), (78, (0, .ofNat 8), .inr (false, (0, .ofNat 2)))], [], []), 
  (6, [(3, .negSucc 9223372036854775807, .ofNat 9223372036854775807), (4, .ofNat 0, .ofNat 600), (5, .ofNat 1, .ofNat 4)], [(1, 5, .ofNat 0), (2, 4, .ofNat 0)], [], [.inr (true, (3, .ofNat 0))], [(78, (0, .ofNat 4), .inr (false, (4, .ofNat 0))), (78, (0, .ofNat 5), .inr (false, (5, .ofNat 0))), (78, (0, .ofNat 8), .inr (false, (0, .ofNat 2)))], [], [])], [], 0, 0)
def cu140 : List sxCu := [
  (5, (6, [(1, .ofNat 0, .ofNat 4), (2, .ofNat 0, .ofNat 600), (3, .negSucc 9223372036854775807, .ofNat 9223372036854775807), (4, .ofNat 0, .ofNat 600), (5, .ofNat 1, .ofNat 4)], [(1, 5, .ofNat 0), (2, 4, .ofNat 0)], [(0, .inl 78), (1, .inr (true, (3, .ofNat 0)))], [], [(78, (0, .ofNat 4), .inr (false, (4, .ofNat 0))), (78, (0, .ofNat 5), .inr (false, (5, .ofNat 0))), (78, (0, .ofNat 8), .inr (false, (0, .ofNat 2)))], [], []), ((0, 4, .ofNat 600), (0, 0, .ofNat 0), (0, 0, .ofNat 0)), 0, 0), 
  (5, (5, [(1, .ofNat 0, .ofNat 0), (2, .ofNat 0, .ofNat 599), (3, .negSucc 9223372036854775807, .ofNat 9223372036854775807), (4, .ofNat 1, .ofNat 600)], [(2, 4, .negSucc 0)], [(0, .inl 78), (1, .inr (true, (3, .ofNat 0)))], [], [(78, (0, .ofNat 4), .inr (false, (4, .ofNat 0))), (78, (0, .ofNat 5), .inr (false, (0, .ofNat 0))), (78, (0, .ofNat 8), .inr (false, (0, .ofNat 2)))], [], []), ((0, 4, .ofNat 600), (0, 0, .ofNat 0), (0, 0, .ofNat 0)), 0, 0)]
set_option maxRecDepth 1000000 in
theorem cv140 {gh : sxGh} (hg : sxGd sxKw gh) : sxCtV sxKw gh ct140 := sxMeB_ok (cts := [ct123, ct139]) (cuts := cu140) (sp := []) 100 (by decide +kernel) hg (by decide) (by decide) (List.forall_mem_cons.mpr ⟨cv123 hg, (List.forall_mem_cons.mpr ⟨cv139 hg, (fun _ h => absurd h List.not_mem_nil)⟩)⟩)
/-- LotBeliefsModel.anyOf -/
def ct141 : sxCt := (217, 18, (3, [(1, .ofNat 0, .ofNat 4), (2, .ofNat 0, .ofNat 600)], [], [(0, .inl 78)], [], [(78, (0, .ofNat 8), .inr (false, (0, .ofNat 2))), (78, (0, .ofNat 5), .inr (false, (1, .ofNat 0))), (78, (0, .ofNat 4), .inr (false, (2, .ofNat 0)))], [], []), [(78, 5), (78, 6), (78, 7), (78, 9), (579, 5)], [
  (6, [(3, .negSucc 9223372036854775807, .ofNat 9223372036854775807), (4, .ofNat 0, .ofNat 600), (5, .ofNat 1, .ofNat 4)], [(1, 5, .ofNat 0), (2, 4, .ofNat 0)], [], [.inr (true, (3, .ofNat 0))], [(78, (0, .ofNat 4), .inr (false, (4, .ofNat 0))), (78, (0, .ofNat 5), .inr (false, (5, .ofNat 0))), (78, (0, .ofNat 8), .inr (false, (0, .ofNat 2)))], [], []), 
  (5, [(1, .ofNat 0, .ofNat 0), (2, .ofNat 0, .ofNat 599), (3, .negSucc 9223372036854775807, .ofNat 9223372036854775807), (4, .ofNat 1, .ofNat 600)], [(2, 4, .negSucc 0)], [], [.inr (true, (3, .ofNat 0))], [(78, (0, .ofNat 4), .inr (false, (4, .ofNat 0))), (78, (0, .ofNat 5), .inr (false, (0, .ofNat 0))), (78, (0, .ofNat 8), .inr (false, (0, .ofNat 2)))], [], [])], [], 0, 0)
def cu141 : List sxCu := [
  (5, (6, [(1, .ofNat 0, .ofNat 4), (2, .ofNat 0, .ofNat 600), (3, .negSucc 9223372036854775807, .ofNat 9223372036854775807), (4, .ofNat 0, .ofNat 600), (5, .ofNat 1, .ofNat 4)], [(1, 5, .ofNat 0), (2, 4, .ofNat 0)], [(0, .inl 78), (1, .inr (true, (3, .ofNat 0)))], [], [(78, (0, .ofNat 4), .inr (false, (4, .ofNat 0))), (78, (0, .ofNat 5), .inr (false, (5, .ofNat 0))), (78, (0, .ofNat 8), .inr (false, (0, .ofNat 2)))], [], []), ((0, 4, .ofNat 600), (0, 0, .ofNat 0), (0, 0, .ofNat 0)), 0, 0), 
  (5, (5, [(1, .ofNat 0, .ofNat 0), (2, .ofNat 0, .ofNat 599), (3, .negSucc 9223372036854775807, .ofNat 9223372036854775807), (4, .ofNat 1, .ofNat 600)], [(2, 4, .negSucc 0)], [(0, .inl 78), (1, .inr (true, (3, .ofNat 0)))], [], [(78, (0, .ofNat 4), .inr (false, (4, .ofNat 0))), (78, (0, .ofNat 5), .inr (false, (0, .ofNat 0))), (78, (0, .ofNat 8), .inr (false, (0, .ofNat 2)))], [], []), ((0, 4, .ofNat 600), (0, 0, .ofNat 0), (0, 0, .ofNat 0)), 0, 0)]
set_option maxRecDepth 1000000 in
theorem cv141 {gh : sxGh} (hg : sxGd sxKw gh) : sxCtV sxKw gh ct141 := sxMeB_ok (cts := [ct126, ct140]) (cuts := cu141) (sp := []) 100 (by decide +kernel) hg (by decide) (by decide) (List.forall_mem_cons.mpr ⟨cv126 hg, (List.forall_mem_cons.mpr ⟨cv140 hg, (fun _ h => absurd h List.not_mem_nil)⟩)⟩)
/-- LotBeliefsModel.oneOf -/
def ct142 : sxCt := (219, 19, (3, [(1, .ofNat 0, .ofNat 4), (2, .ofNat 0, .ofNat 600)], [], [(0, .inl 78)], [], [(78, (0, .ofNat 8), .inr (false, (0, .ofNat 1))), (78, (0, .ofNat 5), .inr (false, (1, .ofNat 0))), (78, (0, .ofNat 4), .inr (false, (2, .ofNat 0)))], [], []), [(78, 5), (78, 6), (78, 7), (78, 9), (579, 5)], [
  (6, [(3, .negSucc 9223372036854775807, .ofNat 9223372036854775807), (4, .ofNat 0, .ofNat 600), (5, .ofNat 1, .ofNat 4)], [(1, 5, .ofNat 0), (2, 4, .ofNat 0)], [], [.inr (true, (3, .ofNat 0))], [(78, (0, .ofNat 4), .inr (false, (4, .ofNat 0))), (78, (0, .ofNat 5), .inr (false, (5, .ofNat 0))), (78, (0, .ofNat 8), .inr (false, (0, .ofNat 1)))], [], []), 
  (5, [(1, .ofNat 0, .ofNat 0), (2, .ofNat 0, .ofNat 599), (3, .negSucc 9223372036854775807, .ofNat 9223372036854775807), (4, .ofNat 1, .ofNat 600)], [(2, 4, .negSucc 0)], [], [.inr (true, (3, .ofNat 0))], [(78, (0, .ofNat 4), .inr (false, (4, .ofNat 0))), (78, (0, .ofNat 5), .inr (false, (0, .ofNat 0))), (78, (0, .ofNat 8), .inr (false, (0, .ofNat 1)))], [], [])], [], 0, 0)
def cu142 : List sxCu := []
set_option maxRecDepth 1000000 in
theorem cv142 {gh : sxGh} (hg : sxGd sxKw gh) : sxCtV sxKw gh ct142 := sxMeB_ok (cts := [ct112, ct114, ct116, ct118, ct115, ct129, ct119, ct120, ct141, ct139]) (cuts := cu142) (sp := []) 1605 (by decide +kernel) hg (by decide) (by decide) (List.forall_mem_cons.mpr ⟨cv112 hg, (List.forall_mem_cons.mpr ⟨cv114 hg, (List.forall_mem_cons.mpr ⟨cv116 hg, (List.forall_mem_cons.mpr ⟨cv118 hg, (List.forall_mem_cons.mpr ⟨cv115 hg, (List.forall_mem_cons.mpr ⟨cv129 hg, (List.forall_mem_cons.mpr ⟨cv119 hg, (List.forall_mem_cons.mpr ⟨cv120 hg, (List.forall_mem_cons.mpr ⟨cv141 hg, (List.forall_mem_cons.mpr ⟨cv139 hg, (fun _ h => absurd h List.not_mem_nil)⟩)⟩)⟩)⟩)⟩)⟩)⟩)⟩)⟩)⟩)
/-- LotBeliefsModel.eachOf -/
def ct143 : sxCt := (218, 20, (3, [(1, .ofNat 0, .ofNat 4), (2, .ofNat 0, .ofNat 600)], [], [(0, .inl 78)], [], [(78, (0, .ofNat 8), .inr (false, (0, .ofNat 1))), (78, (0, .ofNat 5), .inr (false, (1, .ofNat 0))), (78, (0, .ofNat 4), .inr (false, (2, .ofNat 0)))], [], []), [(78, 5), (78, 6), (78, 7), (78, 9), (579, 5)], [
  (5, [(1, .ofNat 0, .ofNat 0), (2, .ofNat 0, .ofNat 599), (3, .negSucc 9223372036854775807, .ofNat 9223372036854775807), (4, .ofNat 1, .ofNat 600)], [(2, 4, .negSucc 0)], [], [.inr (true, (3, .ofNat 0))], [(78, (0, .ofNat 4), .inr (false, (4, .ofNat 0))), (78, (0, .ofNat 5), .inr (false, (0, .ofNat 0))), (78, (0, .ofNat 8), .inr (false, (0, .ofNat 1)))], [], []), 
  (6, [(3, .negSucc 9223372036854775807, .ofNat 9223372036854775807), (4, .ofNat 0, .ofNat 600), (5, .ofNat 1, .ofNat 4)], [(1, 5, .ofNat 0), (2, 4, .ofNat 0)], [], [.inr (true, (3, .ofNat 0))], [(78, (0, .ofNat 4), .inr (false, (4, .ofNat 0))), (78, (0, .ofNat 5), .inr (false, (5, .ofNat 0))), (78, (0, .ofNat 8), .inr (false, (0, .ofNat 1)))], [], [])], [], 0, 0)
def cu143 : List sxCu := [
  (5, (6, [(1, .ofNat 0, .ofNat 4), (2, .ofNat 0, .ofNat 600), (3, .negSucc 9223372036854775807, .ofNat 9223372036854775807), (4, .ofNat 0, .ofNat 600), (5, .ofNat 1, .ofNat 4)], [(1, 5, .ofNat 0), (2, 4, .ofNat 0)], [(0, .inl 78), (1, .inr (true, (3, .ofNat 0)))], [], [(78, (0, .ofNat 4), .inr (false, (4, .ofNat 0))), (78, (0, .ofNat 5), .inr (false, (5, .ofNat 0))), (78, (0, .ofNat 8), .inr (false, (0, .ofNat 1)))], [], []), ((0, 4, .ofNat 600), (0, 0, .ofNat 0), (0, 0, .ofNat 0)), 0, 0), 
  (5, (5, [(1, .ofNat 0, .ofNat 0), (2, .ofNat 0, .ofNat 599), (3, .negSucc 9223372036854775807, .ofNat 9223372036854775807), (4, .ofNat 1, .ofNat 600)], [(2, 4, .negSucc 0)], [(0, .inl 78), (1, .inr (true, (3, .ofNat 0)))], [], [(78, (0, .ofNat 4), .inr (false, (4, .ofNat 0))), (78, (0, .ofNat 5), .inr (false, (0, .ofNat 0))), (78, (0, .ofNat 8), .inr (false, (0, .ofNat 1)))], [], []), ((0, 4, .ofNat 600), (0, 0, .ofNat 0), (0, 0, .ofNat 0)), 0, 0)]
set_option maxRecDepth 1000000 in
theorem cv143 {gh : sxGh} (hg : sxGd sxKw gh) : sxCtV sxKw gh ct143 := sxMeB_ok (cts := [ct123, ct142]) (cuts := cu143) (sp := []) 100 (by decide +kernel) hg (by decide) (by decide) (List.forall_mem_cons.mpr ⟨cv123 hg, (List.forall_mem_cons.mpr ⟨cv142 hg, (fun _ h => absurd h List.not_mem_nil)⟩)⟩)
/-- LotBeliefsModel.anyOf -/
def ct144 : sxCt := (217, 21, (3, [(1, .ofNat 0, .ofNat 4), (2, .ofNat 0, .ofNat 600)], [], [(0, .inl 78)], [], [(78, (0, .ofNat 8), .inr (false, (0, .ofNat 1))), (78, (0, .ofNat 5), .inr (false, (1, .ofNat 0))), (78, (0, .ofNat 4), .inr (false, (2, .ofNat 0)))], [], []), [(78, 5), (78, 6), (78, 7), (78, 9), (579, 5)], [
  (6, [(3, .negSucc 9223372036854775807, .ofNat 9223372036854775807), (4, .ofNat 0, .ofNat 600), (5, .ofNat 1, .ofNat 4)], [(1, 5, .ofNat 0), (2, 4, .ofNat 0)], [], [.inr (true, (3, .ofNat 0))], [(78, (0, .ofNat 4), .inr (false, (4, .ofNat 0))), (78, (0, .ofNat 5), .inr (false, (5, .ofNat 0))), (78, (0, .ofNat 8), .inr (false, (0, .ofNat 1)))], [], []), 
  (5, [(1, .ofNat 0, .ofNat 0), (2, .ofNat 0, .ofNat 599), (3, .negSucc 9223372036854775807, .ofNat 9223372036854775807), (4, .ofNat 1, .ofNat 600)], [(2, 4, .negSucc 0)], [], [.inr (true, (3, .ofNat 0))], [(78, (0, .ofNat 4), .inr (false, (4, .ofNat 0))), (78, (0, .ofNat 5), .inr (false, (0, .ofNat 0))), (78, (0, .ofNat 8), .inr (false, (0, .ofNat 1)))], [], [])], [], 0, 0)
def cu144 : List sxCu := [
  (5, (6, [(1, .ofNat 0, .ofNat 4), (2, .ofNat 0, .ofNat 600), (3, .negSucc 9223372036854775807, .ofNat 9223372036854775807), (4, .ofNat 0, .ofNat 600), (5, .ofNat 1, .ofNat 4)], [(1, 5, .ofNat 0), (2, 4, .ofNat 0)], [(0, .inl 78), (1, .inr (true, (3, .ofNat 0)))], [], [(78, (0, .ofNat 4), .inr (false, (4, .ofNat 0))), (78, (0, .ofNat 5), .inr (false, (5, .ofNat 0))), (78, (0, .ofNat 8), .inr (false, (0, .ofNat 1)))], [], []), ((0, 4, .ofNat 600), (0, 0, .ofNat 0), (0, 0, .ofNat 0)), 0, 0), 
  (5, (5, [(1, .ofNat 0, .ofNat 0), (2, .ofNat 0, .ofNat 599), (3, .negSucc 9223372036854775807, .ofNat 9223372036854775807), (4, .ofNat 1, .ofNat 600)], [(2, 4, .negSucc 0)], [(0, .inl 78), (1, .inr (true, (3, .ofNat 0)))], [], [(78, (0, .ofNat 4), .inr (false, (4, .ofNat 0))), (78, (0, .ofNat 5), .inr (false, (0, .ofNat 0))), (78, (0, .ofNat 8), .inr (false, (0, .ofNat 1)))], [], []), ((0, 4, .ofNat 600), (0, 0, .ofNat 0), (0, 0, .ofNat 0)), 0, 0)]
set_option maxRecDepth 1000000 in
theorem cv144 {gh : sxGh} (hg : sxGd sxKw gh) : sxCtV sxKw gh ct144 := sxMeB_ok (cts := [ct126, ct143]) (cuts := cu144) (sp := []) 100 (by decide +kernel) hg (by decide) (by decide) (List.forall_mem_cons.mpr ⟨cv126 hg, (List.forall_mem_cons.mpr ⟨cv143 hg, (fun _ h => absurd h List.not_mem_nil)⟩)⟩)
/-- LotBeliefsModel.oneOf -/
def ct145 : sxCt := (219, 22, (3, [(1, .ofNat 0, .ofNat 4), (2, .ofNat 0, .ofNat 600)], [], [(0, .inl 78)], [], [(78, (0, .ofNat 8), .inr (false, (0, .ofNat 0))), (78, (0, .ofNat 5), .inr (false, (1, .ofNat 0))), (78, (0, .ofNat 4), .inr (false, (2, .ofNat 0)))], [], []), [(78, 5), (78, 6), (78, 7), (78, 9), (579, 5)], [
  (6, [(3, .negSucc 9223372036854775807, .ofNat 9223372036854775807), (4, .ofNat 0, .ofNat 600), (5, .ofNat 1, .ofNat 4)], [(1, 5, .ofNat 0), (2, 4, .ofNat 0)], [], [.inr (true, (3, .ofNat 0))], [(78, (0, .ofNat 4), .inr (false, (4, .ofNat 0))), (78, (0, .ofNat 5), .inr (false, (5, .ofNat 0))), (78, (0, .ofNat 8), .inr (false, (0, .ofNat 0)))], [], []), 
  (5, [(1, .ofNat 0, .ofNat 0), (2, .ofNat 0, .ofNat 599), (3, .negSucc 9223372036854775807, .ofNat 9223372036854775807), (4, .ofNat 1, .ofNat 600)], [(2, 4, .negSucc 0)], [], [.inr (true, (3, .ofNat 0))], [(78, (0, .ofNat 4), .inr (false, (4, .ofNat 0))), (78, (0, .ofNat 5), .inr (false, (0, .ofNat 0))), (78, (0, .ofNat 8), .inr (false, (0, .ofNat 0)))], [], [])], [], 0, 0)
def cu145 : List sxCu := []
set_option maxRecDepth 1000000 in
theorem cv145 {gh : sxGh} (hg : sxGd sxKw gh) : sxCtV sxKw gh ct145 := sxMeB_ok (cts := [ct112, ct114, ct116, ct118, ct115, ct129, ct119, ct120, ct144, ct142]) (cuts := cu145) (sp := []) 1605 (by decide +kernel) hg (by decide) (by decide) (List.forall_mem_cons.mpr ⟨cv112 hg, (List.forall_mem_cons.mpr ⟨cv114 hg, (List.forall_mem_cons.mpr ⟨cv116 hg, (List.forall_mem_cons.mpr ⟨cv118 hg, (List.forall_mem_cons.mpr ⟨cv115 hg, (List.forall_mem_cons.mpr ⟨cv129 hg, (List.forall_mem_cons.mpr ⟨cv119 hg, (List.forall_mem_cons.mpr ⟨cv120 hg, (List.forall_mem_cons.mpr ⟨cv144 hg, (List.forall_mem_cons.mpr ⟨cv142 hg, (fun _ h => absurd h List.not_mem_nil)⟩)⟩)⟩)⟩)⟩)⟩)⟩)⟩)⟩)⟩)
/-- LotBeliefsModel.eachOf -/
def ct146 : sxCt := (218, 23, (3, [(1, .ofNat 0, .ofNat 4), (2, .ofNat 0, .ofNat 600)], [], [(0, .inl 78)], [], [(78, (0, .ofNat 8), .inr (false, (0, .ofNat 0))), (78, (0, .ofNat 5), .inr (false, (1, .ofNat 0))), (78, (0, .ofNat 4), .inr (false, (2, .ofNat 0)))], [], []), [(78, 5), (78, 6), (78, 7), (78, 9), (579, 5)], [
  (5, [(1, .ofNat 0, .ofNat 0), (2, .ofNat 0, .ofNat 599), (3, .negSucc 9223372036854775807, .ofNat 9223372036854775807), (4, .ofNat 1, .ofNat 600)], [(2, 4, .negSucc 0)], [], [.inr (true, (3, .ofNat 0))], [(78, (0, .ofNat 4), .inr (false, (4, .ofNat 0))), (78, (0, .ofNat 5), .inr (false, (0, .ofNat 0))), (78, (0, .ofNat 8), .inr (false, (0, .ofNat 0)))], [], []), 
  (6, [(3, .negSucc 9223372036854775807, .ofNat 9223372036854775807), (4, .ofNat 0, .ofNat 600), (5, .ofNat 1, .ofNat 4)], [(1, 5, .ofNat 0), (2, 4, .ofNat 0)], [], [.inr (true, (3, .ofNat 0))], [(78, (0, .ofNat 4), .inr (false, (4, .ofNat 0))), (78, (0, .ofNat 5), .inr (false, (5, .ofNat 0))), (78, (0, .ofNat 8), .inr (false, (0, .ofNat 0)))], [], [])], [], 0, 0)
def cu146 : List sxCu := [
  (5, (6, [(1, .ofNat 0, .ofNat 4), (2, .ofNat 0, .ofNat 600), (3, .negSucc 9223372036854775807, .ofNat 9223372036854775807), (4, .ofNat 0, .ofNat 600), (5, .ofNat 1, .ofNat 4)], [(1, 5, .ofNat 0), (2, 4, .ofNat 0)], [(0, .inl 78), (1, .inr (true, (3, .ofNat 0)))], [], [(78, (0, .ofNat 4), .inr (false, (4, .ofNat 0))), (78, (0, .ofNat 5), .inr (false, (5, .ofNat 0))), (78, (0, .ofNat 8), .inr (false, (0, .ofNat 0)))], [], []), ((0, 4, .ofNat 600), (0, 0, .ofNat 0), (0, 0, .ofNat 0)), 0, 0), 
  (5, (5, [(1, .ofNat 0, .ofNat 0), (2, .ofNat 0, .ofNat 599), (3, .negSucc 9223372036854775807, .ofNat 9223372036854775807), (4, .ofNat 1, .ofNat 600)], [(2, 4, .negSucc 0)], [(0, .inl 78), (1, .inr (true, (3, .ofNat 0)))], [], [(78, (0, .ofNat 4), .inr (false, (4, .ofNat 0))), (78, (0, .ofNat 5), .inr (false, (0, .ofNat 0))), (78, (0, .ofNat 8), .inr (false, (0, .ofNat 0)))], [], []), ((0, 4, .ofNat 600), (0, 0, .ofNat 0), (0, 0, .ofNat 0)), 0, 0)]
set_option maxRecDepth 1000000 in
theorem cv146 {gh : sxGh} (hg : sxGd sxKw gh) : sxCtV sxKw gh ct146 := sxMeB_ok (cts := [ct123, ct145]) (cuts := cu146) (sp := []) 100 (by decide +kernel) hg (by decide) (by decide) (List.forall_mem_cons.mpr ⟨cv123 hg, (List.forall_mem_cons.mpr ⟨cv145 hg, (fun _ h => absurd h List.not_mem_nil)⟩)⟩)
/-- LotBeliefsModel.anyOf -/
def ct147 : sxCt := (217, 24, (3, [(1, .ofNat 0, .ofNat 4), (2, .ofNat 0, .ofNat 600)], [], [(0, .inl 78)], [], [(78, (0, .ofNat 8), .inr (false, (0, .ofNat 0))), (78, (0, .ofNat 5), .inr (false, (1, .ofNat 0))), (78, (0, .ofNat 4), .inr (false, (2, .ofNat 0)))], [], []), [(78, 5), (78, 6), (78, 7), (78, 9), (579, 5)], [
  (6, [(3, .negSucc 9223372036854775807, .ofNat 9223372036854775807), (4, .ofNat 0, .ofNat 600), (5, .ofNat 1, .ofNat 4)], [(1, 5, .ofNat 0), (2, 4, .ofNat 0)], [], [.inr (true, (3, .ofNat 0))], [(78, (0, .ofNat 4), .inr (false, (4, .ofNat 0))), (78, (0, .ofNat 5), .inr (false, (5, .ofNat 0))), (78, (0, .ofNat 8), .inr (false, (0, .ofNat 0)))], [], []), 
  (5, [(1, .ofNat 0, .ofNat 0), (2, .ofNat 0, .ofNat 599), (3, .negSucc 9223372036854775807, .ofNat 9223372036854775807), (4, .ofNat 1, .ofNat 600)], [(2, 4, .negSucc 0)], [], [.inr (true, (3, .ofNat 0))], [(78, (0, .ofNat 4), .inr (false, (4, .ofNat 0))), (78, (0, .ofNat 5), .inr (false, (0, .ofNat 0))), (78, (0, .ofNat 8), .inr (false, (0, .ofNat 0)))], [], [])], [], 0, 0)
def cu147 : List sxCu := [
  (5, (6, [(1, .ofNat 0, .ofNat 4), (2, .ofNat 0, .ofNat 600), (3, .negSucc 9223372036854775807, .ofNat 9223372036854775807), (4, .ofNat 0, .ofNat 600), (5, .ofNat 1, .ofNat 4)], [(1, 5, .ofNat 0), (2, 4, .ofNat 0)], [(0, .inl 78), (1, .inr (true, (3, .ofNat 0)))], [], [(78, (0, .ofNat 4), .inr (false, (4, .ofNat 0))), (78, (0, .ofNat 5), .inr (false, (5, .ofNat 0))), (78, (0, .ofNat 8), .inr (false, (0, .ofNat 0)))], [], []), ((0, 4, .ofNat 600), (0, 0, .ofNat 0), (0, 0, .ofNat 0)), 0, 0), 
  (5, (5, [(1, .ofNat 0, .ofNat 0), (2, .ofNat 0, .ofNat 599), (3, .negSucc 9223372036854775807, .ofNat 9223372036854775807), (4, .ofNat 1, .ofNat 600)], [(2, 4, .negSucc 0)], [(0, .inl 78), (1, .inr (true, (3, .ofNat 0)))], [], [(78, (0, .ofNat 4), .inr (false, (4, .ofNat 0))), (78, (0, .ofNat 5), .inr (false, (0, .ofNat 0))), (78, (0, .ofNat 8), .inr (false, (0, .ofNat 0)))], [], []), ((0, 4, .ofNat 600), (0, 0, .ofNat 0), (0, 0, .ofNat 0)), 0, 0)]
set_option maxRecDepth 1000000 in
theorem cv147 {gh : sxGh} (hg : sxGd sxKw gh) : sxCtV sxKw gh ct147 := sxMeB_ok (cts := [ct126, ct146]) (cuts := cu147) (sp := []) 100 (by decide +kernel) hg (by decide) (by decide) (List.forall_mem_cons.mpr ⟨cv126 hg, (List.forall_mem_cons.mpr ⟨cv146 hg, (fun _ h => absurd h List.not_mem_nil)⟩)⟩)
/-- LotBeliefsModel.question -/
def ct148 : sxCt := (226, 25, (3, [(1, .negSucc 2147483647, .ofNat 2147483647), (2, .ofNat 0, .ofNat 600)], [], [(0, .inl 78), (1, .inr (false, (1, .ofNat 0)))], [], [(78, (0, .ofNat 1), .inr (false, (2, .ofNat 0)))], [], []), [(78, 1), (78, 2), (78, 3), (78, 4), (78, 5), (78, 6), (78, 7), (78, 8), (78, 9), (78, 21), (80, 0), (81, 0), (579, 5)], [
  (4, [(1, .ofNat 201, .ofNat 600), (2, .ofNat 201, .ofNat 600), (3, .negSucc 2147483647, .ofNat 2147483647)], [(1, 2, .ofNat 0)], [], [.inr (false, (0, .ofNat 0))], [(78, (0, .ofNat 0), .inr (false, (0, .ofNat 1))), (78, (0, .ofNat 1), .inr (false, (2, .ofNat 0))), (80, (0, .ofNat 1), .inr (false, (3, .ofNat 0)))], [], []), 
  (8, [(1, .ofNat 0, .ofNat 200), (3, .negSucc 2147483647, .ofNat 2147483647), (4, .negSucc 0, .ofNat 600), (5, .ofNat 0, .ofNat 600), (6, .ofNat 0, .ofNat 4), (7, .ofNat 0, .ofNat 6)], [(1, 2, .ofNat 0)], [], [.inr (false, (3, .ofNat 0))], [(78, (0, .ofNat 0), .inr (false, (0, .ofNat 0))), (78, (0, .ofNat 1), .inr (false, (0, .ofNat 0))), (78, (0, .ofNat 2), .inr (false, (1, .ofNat 0))), (78, (0, .ofNat 3), .inr (false, (4, .ofNat 0))), (78, (0, .ofNat 4), .inr (false, (5, .ofNat 0))), (78, (0, .ofNat 5), .inr (false, (6, .ofNat 0))), (78, (0, .ofNat 6), .inr (false, (4, .ofNat 0))), (78, (0, .ofNat 7), .inr (false, (0, .ofNat 0))), (78, (0, .ofNat 8), .inr (false, (0, .ofNat 0))), (81, (0, .ofNat 0), .inr (false, (7, .ofNat 0)))], [], []), 
  (4, [(1, .ofNat 1, .ofNat 2147483647), (3, .negSucc 2147483647, .ofNat 2147483647)], [(2, 1, .negSucc 0)], [], [.inr (false, (0, .ofNat 0))], [(78, (0, .ofNat 0), .inr (false, (0, .ofNat 1))), (78, (0, .ofNat 1), .inr (false, (2, .ofNat 0))), (80, (0, .ofNat 1), .inr (false, (3, .ofNat 0)))], [], []), 
  (4, [(1, .negSucc 2147483647, .negSucc 0), (3, .negSucc 2147483647, .ofNat 2147483647)], [(1, 2, .ofNat 0)], [], [.inr (false, (0, .ofNat 0))], [(78, (0, .ofNat 0), .inr (false, (0, .ofNat 1))), (78, (0, .ofNat 1), .inr (false, (2, .ofNat 0))), (80, (0, .ofNat 1), .inr (false, (3, .ofNat 0)))], [], [])], [], 0, 0)
def cu148 : List sxCu := []
set_option maxRecDepth 1000000 in
theorem cv148 {gh : sxGh} (hg : sxGd sxKw gh) : sxCtV sxKw gh ct148 := sxMeB_ok (cts := [ct111, ct112, ct147, ct0]) (cuts := cu148) (sp := []) 301 (by decide +kernel) hg (by decide) (by decide) (List.forall_mem_cons.mpr ⟨cv111 hg, (List.forall_mem_cons.mpr ⟨cv112 hg, (List.forall_mem_cons.mpr ⟨cv147 hg, (List.forall_mem_cons.mpr ⟨cv0 hg, (fun _ h => absurd h List.not_mem_nil)⟩)⟩)⟩)⟩)
/-- LotBeliefs.Tape.isWord -/
def ct149 : sxCt := (85, 0, (1, [], [], [(0, .inl 1), (1, .inl 1000012)], [], [], [], []), [], [
  (1, [], [], [], [.inr (false, (0, .ofNat 0))], [], [], []), 
  (1, [], [], [], [.inr (false, (0, .ofNat 1))], [], [], [])], [], 0, 0)
def cu149 : List sxCu := []
set_option maxRecDepth 1000000 in
theorem cv149 {gh : sxGh} (hg : sxGd sxKw gh) : sxCtV sxKw gh ct149 := sxMeB_ok (cts := []) (cuts := cu149) (sp := []) 204 (by decide +kernel) hg (by decide) (by decide) (fun _ h => absurd h List.not_mem_nil)
/-- LotBeliefs.Tape.isWord -/
def ct150 : sxCt := (85, 0, (1, [], [], [(0, .inl 1), (1, .inl 1000015)], [], [], [], []), [], [
  (1, [], [], [], [.inr (false, (0, .ofNat 0))], [], [], []), 
  (1, [], [], [], [.inr (false, (0, .ofNat 1))], [], [], [])], [], 0, 0)
def cu150 : List sxCu := []
set_option maxRecDepth 1000000 in
theorem cv150 {gh : sxGh} (hg : sxGd sxKw gh) : sxCtV sxKw gh ct150 := sxMeB_ok (cts := []) (cuts := cu150) (sp := []) 174 (by decide +kernel) hg (by decide) (by decide) (fun _ h => absurd h List.not_mem_nil)
/-- LotBeliefs.Tape.isWord -/
def ct151 : sxCt := (85, 0, (1, [], [], [(0, .inl 1), (1, .inl 1000016)], [], [], [], []), [], [
  (1, [], [], [], [.inr (false, (0, .ofNat 0))], [], [], []), 
  (1, [], [], [], [.inr (false, (0, .ofNat 1))], [], [], [])], [], 0, 0)
def cu151 : List sxCu := []
set_option maxRecDepth 1000000 in
theorem cv151 {gh : sxGh} (hg : sxGd sxKw gh) : sxCtV sxKw gh ct151 := sxMeB_ok (cts := []) (cuts := cu151) (sp := []) 174 (by decide +kernel) hg (by decide) (by decide) (fun _ h => absurd h List.not_mem_nil)
/-- LotBeliefs.Tape.isWord -/
def ct152 : sxCt := (85, 0, (1, [], [], [(0, .inl 1), (1, .inl 1000017)], [], [], [], []), [], [
  (1, [], [], [], [.inr (false, (0, .ofNat 0))], [], [], []), 
  (1, [], [], [], [.inr (false, (0, .ofNat 1))], [], [], [])], [], 0, 0)
def cu152 : List sxCu := []
set_option maxRecDepth 1000000 in
theorem cv152 {gh : sxGh} (hg : sxGd sxKw gh) : sxCtV sxKw gh ct152 := sxMeB_ok (cts := []) (cuts := cu152) (sp := []) 234 (by decide +kernel) hg (by decide) (by decide) (fun _ h => absurd h List.not_mem_nil)
/-- LotBeliefs.Tape.isWord -/
def ct153 : sxCt := (85, 0, (1, [], [], [(0, .inl 1), (1, .inl 1000018)], [], [], [], []), [], [
  (1, [], [], [], [.inr (false, (0, .ofNat 0))], [], [], []), 
  (1, [], [], [], [.inr (false, (0, .ofNat 1))], [], [], [])], [], 0, 0)
def cu153 : List sxCu := []
set_option maxRecDepth 1000000 in
theorem cv153 {gh : sxGh} (hg : sxGd sxKw gh) : sxCtV sxKw gh ct153 := sxMeB_ok (cts := []) (cuts := cu153) (sp := []) 204 (by decide +kernel) hg (by decide) (by decide) (fun _ h => absurd h List.not_mem_nil)
/-- LotBeliefs.Tape.isWord -/
def ct154 : sxCt := (85, 0, (1, [], [], [(0, .inl 1), (1, .inl 1000019)], [], [], [], []), [], [
  (1, [], [], [], [.inr (false, (0, .ofNat 0))], [], [], []), 
  (1, [], [], [], [.inr (false, (0, .ofNat 1))], [], [], [])], [], 0, 0)
def cu154 : List sxCu := []
set_option maxRecDepth 1000000 in
theorem cv154 {gh : sxGh} (hg : sxGd sxKw gh) : sxCtV sxKw gh ct154 := sxMeB_ok (cts := []) (cuts := cu154) (sp := []) 204 (by decide +kernel) hg (by decide) (by decide) (fun _ h => absurd h List.not_mem_nil)
/-- LotBeliefs.Tape.isWord -/
def ct155 : sxCt := (85, 0, (1, [], [], [(0, .inl 1), (1, .inl 1000020)], [], [], [], []), [], [
  (1, [], [], [], [.inr (false, (0, .ofNat 0))], [], [], []), 
  (1, [], [], [], [.inr (false, (0, .ofNat 1))], [], [], [])], [], 0, 0)
def cu155 : List sxCu := []
set_option maxRecDepth 1000000 in
theorem cv155 {gh : sxGh} (hg : sxGd sxKw gh) : sxCtV sxKw gh ct155 := sxMeB_ok (cts := []) (cuts := cu155) (sp := []) 204 (by decide +kernel) hg (by decide) (by decide) (fun _ h => absurd h List.not_mem_nil)
/-- LotBeliefs.Tape.isWord -/
def ct156 : sxCt := (85, 0, (1, [], [], [(0, .inl 1), (1, .inl 1000021)], [], [], [], []), [], [
  (1, [], [], [], [.inr (false, (0, .ofNat 0))], [], [], []), 
  (1, [], [], [], [.inr (false, (0, .ofNat 1))], [], [], [])], [], 0, 0)
def cu156 : List sxCu := []
set_option maxRecDepth 1000000 in
theorem cv156 {gh : sxGh} (hg : sxGd sxKw gh) : sxCtV sxKw gh ct156 := sxMeB_ok (cts := []) (cuts := cu156) (sp := []) 204 (by decide +kernel) hg (by decide) (by decide) (fun _ h => absurd h List.not_mem_nil)
/-- LotBeliefs.Tape.isWord -/
def ct157 : sxCt := (85, 0, (1, [], [], [(0, .inl 1), (1, .inl 1000022)], [], [], [], []), [], [
  (1, [], [], [], [.inr (false, (0, .ofNat 0))], [], [], []), 
  (1, [], [], [], [.inr (false, (0, .ofNat 1))], [], [], [])], [], 0, 0)
def cu157 : List sxCu := []
set_option maxRecDepth 1000000 in
theorem cv157 {gh : sxGh} (hg : sxGd sxKw gh) : sxCtV sxKw gh ct157 := sxMeB_ok (cts := []) (cuts := cu157) (sp := []) 204 (by decide +kernel) hg (by decide) (by decide) (fun _ h => absurd h List.not_mem_nil)
/-- LotBeliefs.Tape.isWord -/
def ct158 : sxCt := (85, 0, (1, [], [], [(0, .inl 1), (1, .inl 1000023)], [], [], [], []), [], [
  (1, [], [], [], [.inr (false, (0, .ofNat 0))], [], [], []), 
  (1, [], [], [], [.inr (false, (0, .ofNat 1))], [], [], [])], [], 0, 0)
def cu158 : List sxCu := []
set_option maxRecDepth 1000000 in
theorem cv158 {gh : sxGh} (hg : sxGd sxKw gh) : sxCtV sxKw gh ct158 := sxMeB_ok (cts := []) (cuts := cu158) (sp := []) 204 (by decide +kernel) hg (by decide) (by decide) (fun _ h => absurd h List.not_mem_nil)
/-- LotBeliefs.Tape.isWord -/
def ct159 : sxCt := (85, 0, (1, [], [], [(0, .inl 1), (1, .inl 1000024)], [], [], [], []), [], [
  (1, [], [], [], [.inr (false, (0, .ofNat 0))], [], [], []), 
  (1, [], [], [], [.inr (false, (0, .ofNat 1))], [], [], [])], [], 0, 0)
def cu159 : List sxCu := []
set_option maxRecDepth 1000000 in
theorem cv159 {gh : sxGh} (hg : sxGd sxKw gh) : sxCtV sxKw gh ct159 := sxMeB_ok (cts := []) (cuts := cu159) (sp := []) 204 (by decide +kernel) hg (by decide) (by decide) (fun _ h => absurd h List.not_mem_nil)
/-- LotBeliefs.Tape.isWord -/
def ct160 : sxCt := (85, 0, (1, [], [], [(0, .inl 1), (1, .inl 1000025)], [], [], [], []), [], [
  (1, [], [], [], [.inr (false, (0, .ofNat 0))], [], [], []), 
  (1, [], [], [], [.inr (false, (0, .ofNat 1))], [], [], [])], [], 0, 0)
def cu160 : List sxCu := []
set_option maxRecDepth 1000000 in
theorem cv160 {gh : sxGh} (hg : sxGd sxKw gh) : sxCtV sxKw gh ct160 := sxMeB_ok (cts := []) (cuts := cu160) (sp := []) 264 (by decide +kernel) hg (by decide) (by decide) (fun _ h => absurd h List.not_mem_nil)
/-- LotBeliefs.TongueReader.quantityHere -/
def ct161 : sxCt := (111, 1, (1, [], [], [(0, .inl 1)], [], [], [], []), [], [
  (2, [(1, .negSucc 0, .ofNat 9)], [], [], [.inr (false, (1, .ofNat 0))], [], [], [])], [], 0, 0)
def cu161 : List sxCu := []
set_option maxRecDepth 1000000 in
theorem cv161 {gh : sxGh} (hg : sxGd sxKw gh) : sxCtV sxKw gh ct161 := sxMeB_ok (cts := [ct160, ct151, ct152, ct153, ct154, ct155, ct156, ct157, ct158, ct159]) (cuts := cu161) (sp := []) 143 (by decide +kernel) hg (by decide) (by decide) (List.forall_mem_cons.mpr ⟨cv160 hg, (List.forall_mem_cons.mpr ⟨cv151 hg, (List.forall_mem_cons.mpr ⟨cv152 hg, (List.forall_mem_cons.mpr ⟨cv153 hg, (List.forall_mem_cons.mpr ⟨cv154 hg, (List.forall_mem_cons.mpr ⟨cv155 hg, (List.forall_mem_cons.mpr ⟨cv156 hg, (List.forall_mem_cons.mpr ⟨cv157 hg, (List.forall_mem_cons.mpr ⟨cv158 hg, (List.forall_mem_cons.mpr ⟨cv159 hg, (fun _ h => absurd h List.not_mem_nil)⟩)⟩)⟩)⟩)⟩)⟩)⟩)⟩)⟩)⟩)
/-- LotBeliefs.TongueReader.readValue -/
def ct162 : sxCt := (110, 2, (1, [], [], [(0, .inl 1), (1, .inl 23)], [], [(1, (0, .ofNat 7), .inr (false, (0, .ofNat 6)))], [], []), [(1, 4), (1, 5), (1, 6), (1, 7), (1, 9), (1, 10), (23, 3), (24, 0)], [
  (2, [(1, .ofNat 0, .ofNat 4)], [], [], [], [(1, (0, .ofNat 3), .inr (false, (1, .ofNat 0))), (1, (0, .ofNat 7), .inr (false, (0, .ofNat 6)))], [], [])], [], 0, 0)
def cu162 : List sxCu := []
set_option maxRecDepth 1000000 in
theorem cv162 {gh : sxGh} (hg : sxGd sxKw gh) : sxCtV sxKw gh ct162 := sxMeB_ok (cts := [ct2, ct161]) (cuts := cu162) (sp := []) 476 (by decide +kernel) hg (by decide) (by decide) (List.forall_mem_cons.mpr ⟨cv2 hg, (List.forall_mem_cons.mpr ⟨cv161 hg, (fun _ h => absurd h List.not_mem_nil)⟩)⟩)
/-- LotBeliefs.TongueReader.readProduct -/
def ct163 : sxCt := (109, 3, (1, [], [], [(0, .inl 1), (1, .inl 23)], [], [(1, (0, .ofNat 7), .inr (false, (0, .ofNat 6)))], [], []), [(1, 4), (1, 5), (1, 6), (1, 7), (1, 9), (1, 10), (23, 3), (24, 0)], [
  (2, [(1, .ofNat 0, .ofNat 4)], [], [], [], [(1, (0, .ofNat 3), .inr (false, (1, .ofNat 0))), (1, (0, .ofNat 7), .inr (false, (0, .ofNat 6)))], [], [])], [], 0, 0)
def cu163 : List sxCu := [
  (7, (3, [(1, .ofNat 0, .ofNat 200), (2, .ofNat 0, .ofNat 4)], [], [(0, .inl 1), (1, .inl 23), (2, .inr (false, (1, .ofNat 0)))], [], [(1, (0, .ofNat 3), .inr (false, (2, .ofNat 0))), (1, (0, .ofNat 7), .inr (false, (0, .ofNat 6)))], [], []), ((0, 1, .ofNat 200), (0, 0, .ofNat 0), (0, 0, .ofNat 0)), 0, 0)]
set_option maxRecDepth 1000000 in
theorem cv163 {gh : sxGh} (hg : sxGd sxKw gh) : sxCtV sxKw gh ct163 := sxMeB_ok (cts := [ct2, ct162]) (cuts := cu163) (sp := []) 127 (by decide +kernel) hg (by decide) (by decide) (List.forall_mem_cons.mpr ⟨cv2 hg, (List.forall_mem_cons.mpr ⟨cv162 hg, (fun _ h => absurd h List.not_mem_nil)⟩)⟩)
/-- LotBeliefs.TongueReader.readSum -/
def ct164 : sxCt := (108, 4, (1, [], [], [(0, .inl 1), (1, .inl 23)], [], [(1, (0, .ofNat 7), .inr (false, (0, .ofNat 6)))], [], []), [(1, 4), (1, 5), (1, 6), (1, 7), (1, 9), (1, 10), (23, 3), (24, 0)], [
  (2, [(1, .ofNat 0, .ofNat 4)], [], [], [], [(1, (0, .ofNat 3), .inr (false, (1, .ofNat 0))), (1, (0, .ofNat 7), .inr (false, (0, .ofNat 6)))], [], [])], [], 0, 0)
def cu164 : List sxCu := [
  (7, (3, [(1, .ofNat 0, .ofNat 200), (2, .ofNat 0, .ofNat 4)], [], [(0, .inl 1), (1, .inl 23), (2, .inr (false, (1, .ofNat 0)))], [], [(1, (0, .ofNat 3), .inr (false, (2, .ofNat 0))), (1, (0, .ofNat 7), .inr (false, (0, .ofNat 6)))], [], []), ((0, 1, .ofNat 200), (0, 0, .ofNat 0), (0, 0, .ofNat 0)), 0, 0)]
set_option maxRecDepth 1000000 in
theorem cv164 {gh : sxGh} (hg : sxGd sxKw gh) : sxCtV sxKw gh ct164 := sxMeB_ok (cts := [ct2, ct163]) (cuts := cu164) (sp := []) 285 (by decide +kernel) hg (by decide) (by decide) (List.forall_mem_cons.mpr ⟨cv2 hg, (List.forall_mem_cons.mpr ⟨cv163 hg, (fun _ h => absurd h List.not_mem_nil)⟩)⟩)
/-- LotBeliefs.TongueReader.readRelation -/
def ct165 : sxCt := (107, 5, (1, [], [], [(0, .inl 1), (1, .inl 23)], [], [(1, (0, .ofNat 7), .inr (false, (0, .ofNat 6)))], [], []), [(1, 4), (1, 5), (1, 6), (1, 7), (1, 9), (1, 10), (23, 3), (24, 0)], [
  (3, [(1, .ofNat 0, .ofNat 4), (2, .ofNat 1, .ofNat 201)], [], [], [], [(1, (0, .ofNat 3), .inr (false, (1, .ofNat 0))), (1, (0, .ofNat 7), .inr (false, (0, .ofNat 6))), (23, (0, .ofNat 2), .inr (false, (2, .ofNat 0)))], [], [])], [], 0, 0)
def cu165 : List sxCu := []
set_option maxRecDepth 1000000 in
theorem cv165 {gh : sxGh} (hg : sxGd sxKw gh) : sxCtV sxKw gh ct165 := sxMeB_ok (cts := [ct2, ct164]) (cuts := cu165) (sp := []) 617 (by decide +kernel) hg (by decide) (by decide) (List.forall_mem_cons.mpr ⟨cv2 hg, (List.forall_mem_cons.mpr ⟨cv164 hg, (fun _ h => absurd h List.not_mem_nil)⟩)⟩)
/-- LotBeliefs.TongueReader.readPart -/
def ct166 : sxCt := (106, 6, (1, [], [], [(0, .inl 1), (1, .inl 23)], [], [(1, (0, .ofNat 7), .inr (false, (0, .ofNat 6)))], [], []), [(1, 4), (1, 5), (1, 6), (1, 7), (1, 9), (1, 10), (23, 3), (24, 0)], [
  (2, [(1, .ofNat 0, .ofNat 4)], [], [], [], [(1, (0, .ofNat 3), .inr (false, (1, .ofNat 0))), (1, (0, .ofNat 7), .inr (false, (0, .ofNat 6)))], [], [])], [], 0, 0)
def cu166 : List sxCu := []
set_option maxRecDepth 1000000 in
theorem cv166 {gh : sxGh} (hg : sxGd sxKw gh) : sxCtV sxKw gh ct166 := sxMeB_ok (cts := [ct150, ct165]) (cuts := cu166) (sp := []) 158 (by decide +kernel) hg (by decide) (by decide) (List.forall_mem_cons.mpr ⟨cv150 hg, (List.forall_mem_cons.mpr ⟨cv165 hg, (fun _ h => absurd h List.not_mem_nil)⟩)⟩)
/-- LotBeliefs.Tape.isWord -/
def ct167 : sxCt := (85, 0, (1, [], [], [(0, .inl 1), (1, .inl 1000026)], [], [], [], []), [], [
  (1, [], [], [], [.inr (false, (0, .ofNat 0))], [], [], []), 
  (1, [], [], [], [.inr (false, (0, .ofNat 1))], [], [], [])], [], 0, 0)
def cu167 : List sxCu := []
set_option maxRecDepth 1000000 in
theorem cv167 {gh : sxGh} (hg : sxGd sxKw gh) : sxCtV sxKw gh ct167 := sxMeB_ok (cts := []) (cuts := cu167) (sp := []) 174 (by decide +kernel) hg (by decide) (by decide) (fun _ h => absurd h List.not_mem_nil)
/-- LotBeliefs.TongueReader.readEach -/
def ct168 : sxCt := (105, 7, (1, [], [], [(0, .inl 1), (1, .inl 23)], [], [(1, (0, .ofNat 7), .inr (false, (0, .ofNat 6)))], [], []), [(1, 4), (1, 5), (1, 6), (1, 7), (1, 9), (1, 10), (23, 3), (24, 0)], [
  (2, [(1, .ofNat 0, .ofNat 4)], [], [], [], [(1, (0, .ofNat 3), .inr (false, (1, .ofNat 0))), (1, (0, .ofNat 7), .inr (false, (0, .ofNat 6)))], [], [])], [], 0, 0)
def cu168 : List sxCu := [
  (7, (3, [(1, .ofNat 0, .ofNat 200), (2, .ofNat 0, .ofNat 4)], [], [(0, .inl 1), (1, .inl 23), (2, .inr (false, (1, .ofNat 0)))], [], [(1, (0, .ofNat 3), .inr (false, (2, .ofNat 0))), (1, (0, .ofNat 7), .inr (false, (0, .ofNat 6)))], [], []), ((0, 1, .ofNat 200), (0, 0, .ofNat 0), (0, 0, .ofNat 0)), 0, 0)]
set_option maxRecDepth 1000000 in
theorem cv168 {gh : sxGh} (hg : sxGd sxKw gh) : sxCtV sxKw gh ct168 := sxMeB_ok (cts := [ct2, ct167, ct166]) (cuts := cu168) (sp := []) 111 (by decide +kernel) hg (by decide) (by decide) (List.forall_mem_cons.mpr ⟨cv2 hg, (List.forall_mem_cons.mpr ⟨cv167 hg, (List.forall_mem_cons.mpr ⟨cv166 hg, (fun _ h => absurd h List.not_mem_nil)⟩)⟩)⟩)
/-- LotBeliefs.Tape.isWord -/
def ct169 : sxCt := (85, 0, (1, [], [], [(0, .inl 1), (1, .inl 1000027)], [], [], [], []), [], [
  (1, [], [], [], [.inr (false, (0, .ofNat 0))], [], [], []), 
  (1, [], [], [], [.inr (false, (0, .ofNat 1))], [], [], [])], [], 0, 0)
def cu169 : List sxCu := []
set_option maxRecDepth 1000000 in
theorem cv169 {gh : sxGh} (hg : sxGd sxKw gh) : sxCtV sxKw gh ct169 := sxMeB_ok (cts := []) (cuts := cu169) (sp := []) 144 (by decide +kernel) hg (by decide) (by decide) (fun _ h => absurd h List.not_mem_nil)
/-- LotBeliefs.TongueReader.readEither -/
def ct170 : sxCt := (104, 8, (1, [], [], [(0, .inl 1), (1, .inl 23)], [], [(1, (0, .ofNat 7), .inr (false, (0, .ofNat 6)))], [], []), [(1, 4), (1, 5), (1, 6), (1, 7), (1, 9), (1, 10), (23, 3), (24, 0)], [
  (2, [(1, .ofNat 0, .ofNat 4)], [], [], [], [(1, (0, .ofNat 3), .inr (false, (1, .ofNat 0))), (1, (0, .ofNat 7), .inr (false, (0, .ofNat 6)))], [], [])], [], 0, 0)
def cu170 : List sxCu := [
  (7, (3, [(1, .ofNat 0, .ofNat 200), (2, .ofNat 0, .ofNat 4)], [], [(0, .inl 1), (1, .inl 23), (2, .inr (false, (1, .ofNat 0)))], [], [(1, (0, .ofNat 3), .inr (false, (2, .ofNat 0))), (1, (0, .ofNat 7), .inr (false, (0, .ofNat 6)))], [], []), ((0, 1, .ofNat 200), (0, 0, .ofNat 0), (0, 0, .ofNat 0)), 0, 0)]
set_option maxRecDepth 1000000 in
theorem cv170 {gh : sxGh} (hg : sxGd sxKw gh) : sxCtV sxKw gh ct170 := sxMeB_ok (cts := [ct2, ct169, ct168]) (cuts := cu170) (sp := []) 111 (by decide +kernel) hg (by decide) (by decide) (List.forall_mem_cons.mpr ⟨cv2 hg, (List.forall_mem_cons.mpr ⟨cv169 hg, (List.forall_mem_cons.mpr ⟨cv168 hg, (fun _ h => absurd h List.not_mem_nil)⟩)⟩)⟩)
/-- LotBeliefs.TongueReader.readValue -/
def ct171 : sxCt := (110, 5, (1, [], [], [(0, .inl 1), (1, .inl 23)], [], [(1, (0, .ofNat 7), .inr (false, (0, .ofNat 5)))], [], []), [(1, 4), (1, 5), (1, 6), (1, 7), (1, 8), (1, 9), (1, 10), (23, 3), (24, 0)], [
  (2, [(1, .ofNat 0, .ofNat 4)], [], [], [], [(1, (0, .ofNat 3), .inr (false, (1, .ofNat 0))), (1, (0, .ofNat 7), .inr (false, (0, .ofNat 5)))], [], [])], [], 0, 0)
def cu171 : List sxCu := []
set_option maxRecDepth 1000000 in
theorem cv171 {gh : sxGh} (hg : sxGd sxKw gh) : sxCtV sxKw gh ct171 := sxMeB_ok (cts := [ct2, ct164, ct161]) (cuts := cu171) (sp := []) 583 (by decide +kernel) hg (by decide) (by decide) (List.forall_mem_cons.mpr ⟨cv2 hg, (List.forall_mem_cons.mpr ⟨cv164 hg, (List.forall_mem_cons.mpr ⟨cv161 hg, (fun _ h => absurd h List.not_mem_nil)⟩)⟩)⟩)
/-- LotBeliefs.TongueReader.readProduct -/
def ct172 : sxCt := (109, 6, (1, [], [], [(0, .inl 1), (1, .inl 23)], [], [(1, (0, .ofNat 7), .inr (false, (0, .ofNat 5)))], [], []), [(1, 4), (1, 5), (1, 6), (1, 7), (1, 8), (1, 9), (1, 10), (23, 3), (24, 0)], [
  (2, [(1, .ofNat 0, .ofNat 4)], [], [], [], [(1, (0, .ofNat 3), .inr (false, (1, .ofNat 0))), (1, (0, .ofNat 7), .inr (false, (0, .ofNat 5)))], [], [])], [], 0, 0)
def cu172 : List sxCu := [
  (7, (3, [(1, .ofNat 0, .ofNat 200), (2, .ofNat 0, .ofNat 4)], [], [(0, .inl 1), (1, .inl 23), (2, .inr (false, (1, .ofNat 0)))], [], [(1, (0, .ofNat 3), .inr (false, (2, .ofNat 0))), (1, (0, .ofNat 7), .inr (false, (0, .ofNat 5)))], [], []), ((0, 1, .ofNat 200), (0, 0, .ofNat 0), (0, 0, .ofNat 0)), 0, 0)]
set_option maxRecDepth 1000000 in
theorem cv172 {gh : sxGh} (hg : sxGd sxKw gh) : sxCtV sxKw gh ct172 := sxMeB_ok (cts := [ct2, ct171]) (cuts := cu172) (sp := []) 127 (by decide +kernel) hg (by decide) (by decide) (List.forall_mem_cons.mpr ⟨cv2 hg, (List.forall_mem_cons.mpr ⟨cv171 hg, (fun _ h => absurd h List.not_mem_nil)⟩)⟩)
/-- LotBeliefs.TongueReader.readSum -/
def ct173 : sxCt := (108, 7, (1, [], [], [(0, .inl 1), (1, .inl 23)], [], [(1, (0, .ofNat 7), .inr (false, (0, .ofNat 5)))], [], []), [(1, 4), (1, 5), (1, 6), (1, 7), (1, 8), (1, 9), (1, 10), (23, 3), (24, 0)], [
  (2, [(1, .ofNat 0, .ofNat 4)], [], [], [], [(1, (0, .ofNat 3), .inr (false, (1, .ofNat 0))), (1, (0, .ofNat 7), .inr (false, (0, .ofNat 5)))], [], [])], [], 0, 0)
def cu173 : List sxCu := [
  (7, (3, [(1, .ofNat 0, .ofNat 200), (2, .ofNat 0, .ofNat 4)], [], [(0, .inl 1), (1, .inl 23), (2, .inr (false, (1, .ofNat 0)))], [], [(1, (0, .ofNat 3), .inr (false, (2, .ofNat 0))), (1, (0, .ofNat 7), .inr (false, (0, .ofNat 5)))], [], []), ((0, 1, .ofNat 200), (0, 0, .ofNat 0), (0, 0, .ofNat 0)), 0, 0)]
set_option maxRecDepth 1000000 in
theorem cv173 {gh : sxGh} (hg : sxGd sxKw gh) : sxCtV sxKw gh ct173 := sxMeB_ok (cts := [ct2, ct172]) (cuts := cu173) (sp := []) 285 (by decide +kernel) hg (by decide) (by decide) (List.forall_mem_cons.mpr ⟨cv2 hg, (List.forall_mem_cons.mpr ⟨cv172 hg, (fun _ h => absurd h List.not_mem_nil)⟩)⟩)
/-- LotBeliefs.TongueReader.readRelation -/
def ct174 : sxCt := (107, 8, (1, [], [], [(0, .inl 1), (1, .inl 23)], [], [(1, (0, .ofNat 7), .inr (false, (0, .ofNat 5)))], [], []), [(1, 4), (1, 5), (1, 6), (1, 7), (1, 8), (1, 9), (1, 10), (23, 3), (24, 0)], [
  (3, [(1, .ofNat 0, .ofNat 4), (2, .ofNat 1, .ofNat 201)], [], [], [], [(1, (0, .ofNat 3), .inr (false, (1, .ofNat 0))), (1, (0, .ofNat 7), .inr (false, (0, .ofNat 5))), (23, (0, .ofNat 2), .inr (false, (2, .ofNat 0)))], [], [])], [], 0, 0)
def cu174 : List sxCu := []
set_option maxRecDepth 1000000 in
theorem cv174 {gh : sxGh} (hg : sxGd sxKw gh) : sxCtV sxKw gh ct174 := sxMeB_ok (cts := [ct2, ct173]) (cuts := cu174) (sp := []) 617 (by decide +kernel) hg (by decide) (by decide) (List.forall_mem_cons.mpr ⟨cv2 hg, (List.forall_mem_cons.mpr ⟨cv173 hg, (fun _ h => absurd h List.not_mem_nil)⟩)⟩)
/-- LotBeliefs.TongueReader.readPart -/
def ct175 : sxCt := (106, 9, (1, [], [], [(0, .inl 1), (1, .inl 23)], [], [(1, (0, .ofNat 7), .inr (false, (0, .ofNat 5)))], [], []), [(1, 4), (1, 5), (1, 6), (1, 7), (1, 8), (1, 9), (1, 10), (23, 3), (24, 0)], [
  (2, [(1, .ofNat 0, .ofNat 4)], [], [], [], [(1, (0, .ofNat 3), .inr (false, (1, .ofNat 0))), (1, (0, .ofNat 7), .inr (false, (0, .ofNat 5)))], [], [])], [], 0, 0)
def cu175 : List sxCu := []
set_option maxRecDepth 1000000 in
theorem cv175 {gh : sxGh} (hg : sxGd sxKw gh) : sxCtV sxKw gh ct175 := sxMeB_ok (cts := [ct2, ct150, ct170, ct166, ct174]) (cuts := cu175) (sp := []) 290 (by decide +kernel) hg (by decide) (by decide) (List.forall_mem_cons.mpr ⟨cv2 hg, (List.forall_mem_cons.mpr ⟨cv150 hg, (List.forall_mem_cons.mpr ⟨cv170 hg, (List.forall_mem_cons.mpr ⟨cv166 hg, (List.forall_mem_cons.mpr ⟨cv174 hg, (fun _ h => absurd h List.not_mem_nil)⟩)⟩)⟩)⟩)⟩)
/-- LotBeliefs.TongueReader.readEach -/
def ct176 : sxCt := (105, 10, (1, [], [], [(0, .inl 1), (1, .inl 23)], [], [(1, (0, .ofNat 7), .inr (false, (0, .ofNat 5)))], [], []), [(1, 4), (1, 5), (1, 6), (1, 7), (1, 8), (1, 9), (1, 10), (23, 3), (24, 0)], [
  (2, [(1, .ofNat 0, .ofNat 4)], [], [], [], [(1, (0, .ofNat 3), .inr (false, (1, .ofNat 0))), (1, (0, .ofNat 7), .inr (false, (0, .ofNat 5)))], [], [])], [], 0, 0)
def cu176 : List sxCu := [
  (7, (3, [(1, .ofNat 0, .ofNat 200), (2, .ofNat 0, .ofNat 4)], [], [(0, .inl 1), (1, .inl 23), (2, .inr (false, (1, .ofNat 0)))], [], [(1, (0, .ofNat 3), .inr (false, (2, .ofNat 0))), (1, (0, .ofNat 7), .inr (false, (0, .ofNat 5)))], [], []), ((0, 1, .ofNat 200), (0, 0, .ofNat 0), (0, 0, .ofNat 0)), 0, 0)]
set_option maxRecDepth 1000000 in
theorem cv176 {gh : sxGh} (hg : sxGd sxKw gh) : sxCtV sxKw gh ct176 := sxMeB_ok (cts := [ct2, ct167, ct175]) (cuts := cu176) (sp := []) 111 (by decide +kernel) hg (by decide) (by decide) (List.forall_mem_cons.mpr ⟨cv2 hg, (List.forall_mem_cons.mpr ⟨cv167 hg, (List.forall_mem_cons.mpr ⟨cv175 hg, (fun _ h => absurd h List.not_mem_nil)⟩)⟩)⟩)
/-- LotBeliefs.TongueReader.readEither -/
def ct177 : sxCt := (104, 11, (1, [], [], [(0, .inl 1), (1, .inl 23)], [], [(1, (0, .ofNat 7), .inr (false, (0, .ofNat 5)))], [], []), [(1, 4), (1, 5), (1, 6), (1, 7), (1, 8), (1, 9), (1, 10), (23, 3), (24, 0)], [
  (2, [(1, .ofNat 0, .ofNat 4)], [], [], [], [(1, (0, .ofNat 3), .inr (false, (1, .ofNat 0))), (1, (0, .ofNat 7), .inr (false, (0, .ofNat 5)))], [], [])], [], 0, 0)
def cu177 : List sxCu := [
  (7, (3, [(1, .ofNat 0, .ofNat 200), (2, .ofNat 0, .ofNat 4)], [], [(0, .inl 1), (1, .inl 23), (2, .inr (false, (1, .ofNat 0)))], [], [(1, (0, .ofNat 3), .inr (false, (2, .ofNat 0))), (1, (0, .ofNat 7), .inr (false, (0, .ofNat 5)))], [], []), ((0, 1, .ofNat 200), (0, 0, .ofNat 0), (0, 0, .ofNat 0)), 0, 0)]
set_option maxRecDepth 1000000 in
theorem cv177 {gh : sxGh} (hg : sxGd sxKw gh) : sxCtV sxKw gh ct177 := sxMeB_ok (cts := [ct2, ct169, ct176]) (cuts := cu177) (sp := []) 111 (by decide +kernel) hg (by decide) (by decide) (List.forall_mem_cons.mpr ⟨cv2 hg, (List.forall_mem_cons.mpr ⟨cv169 hg, (List.forall_mem_cons.mpr ⟨cv176 hg, (fun _ h => absurd h List.not_mem_nil)⟩)⟩)⟩)
/-- LotBeliefs.TongueReader.readValue -/
def ct178 : sxCt := (110, 8, (1, [], [], [(0, .inl 1), (1, .inl 23)], [], [(1, (0, .ofNat 7), .inr (false, (0, .ofNat 4)))], [], []), [(1, 4), (1, 5), (1, 6), (1, 7), (1, 8), (1, 9), (1, 10), (23, 3), (24, 0)], [
  (2, [(1, .ofNat 0, .ofNat 4)], [], [], [], [(1, (0, .ofNat 3), .inr (false, (1, .ofNat 0))), (1, (0, .ofNat 7), .inr (false, (0, .ofNat 4)))], [], [])], [], 0, 0)
def cu178 : List sxCu := []
set_option maxRecDepth 1000000 in
theorem cv178 {gh : sxGh} (hg : sxGd sxKw gh) : sxCtV sxKw gh ct178 := sxMeB_ok (cts := [ct2, ct173, ct161]) (cuts := cu178) (sp := []) 583 (by decide +kernel) hg (by decide) (by decide) (List.forall_mem_cons.mpr ⟨cv2 hg, (List.forall_mem_cons.mpr ⟨cv173 hg, (List.forall_mem_cons.mpr ⟨cv161 hg, (fun _ h => absurd h List.not_mem_nil)⟩)⟩)⟩)
/-- LotBeliefs.TongueReader.readProduct -/
def ct179 : sxCt := (109, 9, (1, [], [], [(0, .inl 1), (1, .inl 23)], [], [(1, (0, .ofNat 7), .inr (false, (0, .ofNat 4)))], [], []), [(1, 4), (1, 5), (1, 6), (1, 7), (1, 8), (1, 9), (1, 10), (23, 3), (24, 0)], [
  (2, [(1, .ofNat 0, .ofNat 4)], [], [], [], [(1, (0, .ofNat 3), .inr (false, (1, .ofNat 0))), (1, (0, .ofNat 7), .inr (false, (0, .ofNat 4)))], [], [])], [], 0, 0)
def cu179 : List sxCu := [
  (7, (3, [(1, .ofNat 0, .ofNat 200), (2, .ofNat 0, .ofNat 4)], [], [(0, .inl 1), (1, .inl 23), (2, .inr (false, (1, .ofNat 0)))], [], [(1, (0, .ofNat 3), .inr (false, (2, .ofNat 0))), (1, (0, .ofNat 7), .inr (false, (0, .ofNat 4)))], [], []), ((0, 1, .ofNat 200), (0, 0, .ofNat 0), (0, 0, .ofNat 0)), 0, 0)]
set_option maxRecDepth 1000000 in
theorem cv179 {gh : sxGh} (hg : sxGd sxKw gh) : sxCtV sxKw gh ct179 := sxMeB_ok (cts := [ct2, ct178]) (cuts := cu179) (sp := []) 127 (by decide +kernel) hg (by decide) (by decide) (List.forall_mem_cons.mpr ⟨cv2 hg, (List.forall_mem_cons.mpr ⟨cv178 hg, (fun _ h => absurd h List.not_mem_nil)⟩)⟩)
/-- LotBeliefs.TongueReader.readSum -/
def ct180 : sxCt := (108, 10, (1, [], [], [(0, .inl 1), (1, .inl 23)], [], [(1, (0, .ofNat 7), .inr (false, (0, .ofNat 4)))], [], []), [(1, 4), (1, 5), (1, 6), (1, 7), (1, 8), (1, 9), (1, 10), (23, 3), (24, 0)], [
  (2, [(1, .ofNat 0, .ofNat 4)], [], [], [], [(1, (0, .ofNat 3), .inr (false, (1, .ofNat 0))), (1, (0, .ofNat 7), .inr (false, (0, .ofNat 4)))], [], [])], [], 0, 0)
def cu180 : List sxCu := [
  (7, (3, [(1, .ofNat 0, .ofNat 200), (2, .ofNat 0, .ofNat 4)], [], [(0, .inl 1), (1, .inl 23), (2, .inr (false, (1, .ofNat 0)))], [], [(1, (0, .ofNat 3), .inr (false, (2, .ofNat 0))), (1, (0, .ofNat 7), .inr (false, (0, .ofNat 4)))], [], []), ((0, 1, .ofNat 200), (0, 0, .ofNat 0), (0, 0, .ofNat 0)), 0, 0)]
set_option maxRecDepth 1000000 in
theorem cv180 {gh : sxGh} (hg : sxGd sxKw gh) : sxCtV sxKw gh ct180 := sxMeB_ok (cts := [ct2, ct179]) (cuts := cu180) (sp := []) 285 (by decide +kernel) hg (by decide) (by decide) (List.forall_mem_cons.mpr ⟨cv2 hg, (List.forall_mem_cons.mpr ⟨cv179 hg, (fun _ h => absurd h List.not_mem_nil)⟩)⟩)
/-- LotBeliefs.TongueReader.readRelation -/
def ct181 : sxCt := (107, 11, (1, [], [], [(0, .inl 1), (1, .inl 23)], [], [(1, (0, .ofNat 7), .inr (false, (0, .ofNat 4)))], [], []), [(1, 4), (1, 5), (1, 6), (1, 7), (1, 8), (1, 9), (1, 10), (23, 3), (24, 0)], [
  (3, [(1, .ofNat 0, .ofNat 4), (2, .ofNat 1, .ofNat 201)], [], [], [], [(1, (0, .ofNat 3), .inr (false, (1, .ofNat 0))), (1, (0, .ofNat 7), .inr (false, (0, .ofNat 4))), (23, (0, .ofNat 2), .inr (false, (2, .ofNat 0)))], [], [])], [], 0, 0)
def cu181 : List sxCu := []
set_option maxRecDepth 1000000 in
theorem cv181 {gh : sxGh} (hg : sxGd sxKw gh) : sxCtV sxKw gh ct181 := sxMeB_ok (cts := [ct2, ct180]) (cuts := cu181) (sp := []) 617 (by decide +kernel) hg (by decide) (by decide) (List.forall_mem_cons.mpr ⟨cv2 hg, (List.forall_mem_cons.mpr ⟨cv180 hg, (fun _ h => absurd h List.not_mem_nil)⟩)⟩)
/-- LotBeliefs.TongueReader.readPart -/
def ct182 : sxCt := (106, 12, (1, [], [], [(0, .inl 1), (1, .inl 23)], [], [(1, (0, .ofNat 7), .inr (false, (0, .ofNat 4)))], [], []), [(1, 4), (1, 5), (1, 6), (1, 7), (1, 8), (1, 9), (1, 10), (23, 3), (24, 0)], [
  (2, [(1, .ofNat 0, .ofNat 4)], [], [], [], [(1, (0, .ofNat 3), .inr (false, (1, .ofNat 0))), (1, (0, .ofNat 7), .inr (false, (0, .ofNat 4)))], [], [])], [], 0, 0)
def cu182 : List sxCu := []
set_option maxRecDepth 1000000 in
theorem cv182 {gh : sxGh} (hg : sxGd sxKw gh) : sxCtV sxKw gh ct182 := sxMeB_ok (cts := [ct2, ct150, ct177, ct175, ct181]) (cuts := cu182) (sp := []) 290 (by decide +kernel) hg (by decide) (by decide) (List.forall_mem_cons.mpr ⟨cv2 hg, (List.forall_mem_cons.mpr ⟨cv150 hg, (List.forall_mem_cons.mpr ⟨cv177 hg, (List.forall_mem_cons.mpr ⟨cv175 hg, (List.forall_mem_cons.mpr ⟨cv181 hg, (fun _ h => absurd h List.not_mem_nil)⟩)⟩)⟩)⟩)⟩)
/-- LotBeliefs.TongueReader.readEach -/
def ct183 : sxCt := (105, 13, (1, [], [], [(0, .inl 1), (1, .inl 23)], [], [(1, (0, .ofNat 7), .inr (false, (0, .ofNat 4)))], [], []), [(1, 4), (1, 5), (1, 6), (1, 7), (1, 8), (1, 9), (1, 10), (23, 3), (24, 0)], [
  (2, [(1, .ofNat 0, .ofNat 4)], [], [], [], [(1, (0, .ofNat 3), .inr (false, (1, .ofNat 0))), (1, (0, .ofNat 7), .inr (false, (0, .ofNat 4)))], [], [])], [], 0, 0)
def cu183 : List sxCu := [
  (7, (3, [(1, .ofNat 0, .ofNat 200), (2, .ofNat 0, .ofNat 4)], [], [(0, .inl 1), (1, .inl 23), (2, .inr (false, (1, .ofNat 0)))], [], [(1, (0, .ofNat 3), .inr (false, (2, .ofNat 0))), (1, (0, .ofNat 7), .inr (false, (0, .ofNat 4)))], [], []), ((0, 1, .ofNat 200), (0, 0, .ofNat 0), (0, 0, .ofNat 0)), 0, 0)]
set_option maxRecDepth 1000000 in
theorem cv183 {gh : sxGh} (hg : sxGd sxKw gh) : sxCtV sxKw gh ct183 := sxMeB_ok (cts := [ct2, ct167, ct182]) (cuts := cu183) (sp := []) 111 (by decide +kernel) hg (by decide) (by decide) (List.forall_mem_cons.mpr ⟨cv2 hg, (List.forall_mem_cons.mpr ⟨cv167 hg, (List.forall_mem_cons.mpr ⟨cv182 hg, (fun _ h => absurd h List.not_mem_nil)⟩)⟩)⟩)
/-- LotBeliefs.TongueReader.readEither -/
def ct184 : sxCt := (104, 14, (1, [], [], [(0, .inl 1), (1, .inl 23)], [], [(1, (0, .ofNat 7), .inr (false, (0, .ofNat 4)))], [], []), [(1, 4), (1, 5), (1, 6), (1, 7), (1, 8), (1, 9), (1, 10), (23, 3), (24, 0)], [
  (2, [(1, .ofNat 0, .ofNat 4)], [], [], [], [(1, (0, .ofNat 3), .inr (false, (1, .ofNat 0))), (1, (0, .ofNat 7), .inr (false, (0, .ofNat 4)))], [], [])], [], 0, 0)
def cu184 : List sxCu := [
  (7, (3, [(1, .ofNat 0, .ofNat 200), (2, .ofNat 0, .ofNat 4)], [], [(0, .inl 1), (1, .inl 23), (2, .inr (false, (1, .ofNat 0)))], [], [(1, (0, .ofNat 3), .inr (false, (2, .ofNat 0))), (1, (0, .ofNat 7), .inr (false, (0, .ofNat 4)))], [], []), ((0, 1, .ofNat 200), (0, 0, .ofNat 0), (0, 0, .ofNat 0)), 0, 0)]
set_option maxRecDepth 1000000 in
theorem cv184 {gh : sxGh} (hg : sxGd sxKw gh) : sxCtV sxKw gh ct184 := sxMeB_ok (cts := [ct2, ct169, ct183]) (cuts := cu184) (sp := []) 111 (by decide +kernel) hg (by decide) (by decide) (List.forall_mem_cons.mpr ⟨cv2 hg, (List.forall_mem_cons.mpr ⟨cv169 hg, (List.forall_mem_cons.mpr ⟨cv183 hg, (fun _ h => absurd h List.not_mem_nil)⟩)⟩)⟩)
/-- LotBeliefs.TongueReader.readValue -/
def ct185 : sxCt := (110, 11, (1, [], [], [(0, .inl 1), (1, .inl 23)], [], [(1, (0, .ofNat 7), .inr (false, (0, .ofNat 3)))], [], []), [(1, 4), (1, 5), (1, 6), (1, 7), (1, 8), (1, 9), (1, 10), (23, 3), (24, 0)], [
  (2, [(1, .ofNat 0, .ofNat 4)], [], [], [], [(1, (0, .ofNat 3), .inr (false, (1, .ofNat 0))), (1, (0, .ofNat 7), .inr (false, (0, .ofNat 3)))], [], [])], [], 0, 0)
def cu185 : List sxCu := []
set_option maxRecDepth 1000000 in
theorem cv185 {gh : sxGh} (hg : sxGd sxKw gh) : sxCtV sxKw gh ct185 := sxMeB_ok (cts := [ct2, ct180, ct161]) (cuts := cu185) (sp := []) 583 (by decide +kernel) hg (by decide) (by decide) (List.forall_mem_cons.mpr ⟨cv2 hg, (List.forall_mem_cons.mpr ⟨cv180 hg, (List.forall_mem_cons.mpr ⟨cv161 hg, (fun _ h => absurd h List.not_mem_nil)⟩)⟩)⟩)
/-- LotBeliefs.TongueReader.readProduct -/
def ct186 : sxCt := (109, 12, (1, [], [], [(0, .inl 1), (1, .inl 23)], [], [(1, (0, .ofNat 7), .inr (false, (0, .ofNat 3)))], [], []), [(1, 4), (1, 5), (1, 6), (1, 7), (1, 8), (1, 9), (1, 10), (23, 3), (24, 0)], [
  (2, [(1, .ofNat 0, .ofNat 4)], [], [], [], [(1, (0, .ofNat 3), .inr (false, (1, .ofNat 0))), (1, (0, .ofNat 7), .inr (false, (0, .ofNat 3)))], [], [])], [], 0, 0)
def cu186 : List sxCu := [
  (7, (3, [(1, .ofNat 0, .ofNat 200), (2, .ofNat 0, .ofNat 4)], [], [(0, .inl 1), (1, .inl 23), (2, .inr (false, (1, .ofNat 0)))], [], [(1, (0, .ofNat 3), .inr (false, (2, .ofNat 0))), (1, (0, .ofNat 7), .inr (false, (0, .ofNat 3)))], [], []), ((0, 1, .ofNat 200), (0, 0, .ofNat 0), (0, 0, .ofNat 0)), 0, 0)]
set_option maxRecDepth 1000000 in
theorem cv186 {gh : sxGh} (hg : sxGd sxKw gh) : sxCtV sxKw gh ct186 := sxMeB_ok (cts := [ct2, ct185]) (cuts := cu186) (sp := []) 127 (by decide +kernel) hg (by decide) (by decide) (List.forall_mem_cons.mpr ⟨cv2 hg, (List.forall_mem_cons.mpr ⟨cv185 hg, (fun _ h => absurd h List.not_mem_nil)⟩)⟩)
end SXC
