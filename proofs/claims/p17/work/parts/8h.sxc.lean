/-! SX: contracts, by program -/
section SXC
/-- LotBeliefsModel.whole -/
def ct1180 : sxCt := (302, 2, (3, [(1, .ofNat 0, .ofNat 51), (2, .negSucc 2147483647, .ofNat 2147483647)], [], [(0, .inl 78), (1, .inr (false, (1, .ofNat 0))), (2, .inr (false, (2, .ofNat 0)))], [], [], [], []), [(78, 1)], [
  (4, [(3, .negSucc 0, .ofNat 4095)], [], [], [.inr (false, (3, .ofNat 0))], [(78, (0, .ofNat 0), .inr (false, (0, .ofNat 0)))], [], [])], [], 0, 0)
def cu1180 : List sxCu := [
  (33, (5, [(1, .ofNat 0, .ofNat 51), (2, .negSucc 2147483647, .ofNat 2147483647), (3, .ofNat 0, .ofNat 4096), (4, .ofNat 0, .ofNat 4096)], [(3, 4, .ofNat 0)], [(0, .inl 78), (1, .inr (false, (1, .ofNat 0))), (2, .inr (false, (2, .ofNat 0))), (3, .inr (false, (3, .ofNat 0))), (4, .inr (false, (4, .ofNat 0)))], [], [(78, (0, .ofNat 0), .inr (false, (0, .ofNat 0)))], [], []), ((0, 4, .ofNat 4096), (0, 0, .ofNat 0), (0, 0, .ofNat 0)), 0, 0)]
set_option maxRecDepth 1000000 in
theorem cv1180 {gh : sxGh} (hg : sxGd sxKw gh) : sxCtV sxKw gh ct1180 := sxMeB_ok (cts := [ct1175]) (cuts := cu1180) (sp := []) 125 sorry hg (by decide) (by decide) (List.forall_mem_cons.mpr ⟨cv1175 hg, (fun _ h => absurd h List.not_mem_nil)⟩)
/-- LotBeliefsModel.proof -/
def ct1181 : sxCt := (303, 2, (2, [(1, .negSucc 2147483647, .ofNat 2147483647)], [], [(0, .inl 78), (1, .inr (false, (1, .ofNat 0)))], [], [], [], []), [(78, 1), (80, 0)], [
  (4, [(2, .negSucc 0, .ofNat 4095), (3, .ofNat 0, .ofNat 1)], [(3, 2, .ofNat 1)], [], [.inr (false, (2, .ofNat 0))], [(78, (0, .ofNat 0), .inr (false, (3, .ofNat 0)))], [], [])], [], 0, 0)
def cu1181 : List sxCu := [
  (32, (4, [(1, .ofNat 0, .ofNat 51), (2, .negSucc 0, .ofNat 4095), (3, .ofNat 0, .ofNat 4096)], [(2, 3, .negSucc 0)], [(0, .inl 78), (1, .inr (false, (1, .ofNat 0))), (2, .inr (false, (2, .ofNat 0))), (3, .inr (false, (3, .ofNat 0)))], [], [(78, (0, .ofNat 0), .inr (false, (0, .ofNat 0)))], [], []), ((0, 3, .ofNat 4096), (0, 0, .ofNat 0), (0, 0, .ofNat 0)), 0, 0)]
set_option maxRecDepth 1000000 in
theorem cv1181 {gh : sxGh} (hg : sxGd sxKw gh) : sxCtV sxKw gh ct1181 := sxMeB_ok (cts := [ct622, ct621]) (cuts := cu1181) (sp := []) 262 sorry hg (by decide) (by decide) (List.forall_mem_cons.mpr ⟨cv622 hg, (List.forall_mem_cons.mpr ⟨cv621 hg, (fun _ h => absurd h List.not_mem_nil)⟩)⟩)
/-- LotBeliefs.Subsets.proving -/
def ct1182 : sxCt := (62, 1, (2, [(1, .negSucc 9223372036854775807, .ofNat 9223372036854775807)], [], [(0, .inl 45), (1, .inr (true, (1, .ofNat 0)))], [], [], [], []), [], [
  (3, [(2, .negSucc 0, .ofNat 4095)], [], [], [.inr (false, (2, .ofNat 0))], [], [], [])], [], 0, 0)
def cu1182 : List sxCu := [
  (9, (5, [(1, .negSucc 9223372036854775807, .ofNat 9223372036854775807), (2, .negSucc 0, .ofNat 4095), (3, .ofNat 0, .ofNat 63), (4, .ofNat 0, .ofNat 4096)], [(2, 4, .negSucc 0)], [(0, .inl 45), (1, .inr (true, (1, .ofNat 0))), (3, .inr (false, (2, .ofNat 0))), (4, .inr (false, (3, .ofNat 0))), (5, .inr (false, (4, .ofNat 0)))], [], [], [], []), ((0, 4, .ofNat 4096), (0, 0, .ofNat 0), (0, 0, .ofNat 0)), 0, 0)]
set_option maxRecDepth 1000000 in
theorem cv1182 {gh : sxGh} (hg : sxGd sxKw gh) : sxCtV sxKw gh ct1182 := sxMeB_ok (cts := [ct616]) (cuts := cu1182) (sp := []) 170 sorry hg (by decide) (by decide) (List.forall_mem_cons.mpr ⟨cv616 hg, (fun _ h => absurd h List.not_mem_nil)⟩)
/-- LotBeliefsModel.proof -/
def ct1183 : sxCt := (303, 2, (2, [(1, .ofNat 0, .ofNat 51)], [], [(0, .inl 78), (1, .inr (false, (1, .ofNat 0)))], [], [], [], []), [(78, 1)], [
  (3, [(2, .negSucc 0, .ofNat 4095)], [], [], [.inr (false, (2, .ofNat 0))], [(78, (0, .ofNat 0), .inr (false, (0, .ofNat 0)))], [], [])], [], 0, 0)
def cu1183 : List sxCu := [
  (32, (4, [(1, .ofNat 0, .ofNat 51), (2, .negSucc 0, .ofNat 4095), (3, .ofNat 0, .ofNat 4096)], [(2, 3, .negSucc 0)], [(0, .inl 78), (1, .inr (false, (1, .ofNat 0))), (2, .inr (false, (2, .ofNat 0))), (3, .inr (false, (3, .ofNat 0)))], [], [(78, (0, .ofNat 0), .inr (false, (0, .ofNat 0)))], [], []), ((0, 3, .ofNat 4096), (0, 0, .ofNat 0), (0, 0, .ofNat 0)), 0, 0)]
set_option maxRecDepth 1000000 in
theorem cv1183 {gh : sxGh} (hg : sxGd sxKw gh) : sxCtV sxKw gh ct1183 := sxMeB_ok (cts := [ct622, ct621]) (cuts := cu1183) (sp := []) 194 sorry hg (by decide) (by decide) (List.forall_mem_cons.mpr ⟨cv622 hg, (List.forall_mem_cons.mpr ⟨cv621 hg, (fun _ h => absurd h List.not_mem_nil)⟩)⟩)
/-- LotBeliefs.split -/
def ct1184 : sxCt := (141, 3, (3, [(1, .negSucc 2147483647, .ofNat 2147483647), (2, .negSucc 2147483647, .ofNat 2147483647)], [], [(0, .inl 0), (1, .inr (false, (1, .ofNat 0))), (2, .inr (false, (2, .ofNat 0)))], [], [], [], []), [(30, 0)], [
  (4, [(1, .ofNat 0, .ofNat 51), (2, .ofNat 0, .ofNat 1), (3, .ofNat 0, .ofNat 127)], [], [], [.inr (false, (3, .ofNat 0))], [], [], [])], [
  (1, (4, [(3, .negSucc 2147483647, .ofNat 2147483647)], [], [], [], [(30, (0, .ofNat 1), .inr (false, (3, .ofNat 0)))], [], []))], 1, 6)
def cu1184 : List sxCu := [
  (27, (6, [(1, .ofNat 0, .ofNat 51), (2, .ofNat 0, .ofNat 1), (3, .ofNat 0, .ofNat 5), (4, .ofNat 0, .ofNat 127), (5, .ofNat 1, .ofNat 6)], [(3, 5, .negSucc 0)], [(0, .inl 0), (1, .inr (false, (1, .ofNat 0))), (2, .inr (false, (2, .ofNat 0))), (3, .inr (false, (3, .ofNat 0))), (4, .inr (false, (4, .ofNat 0))), (5, .inr (false, (5, .ofNat 0)))], [], [], [], []), ((0, 5, .ofNat 6), (0, 0, .ofNat 0), (0, 0, .ofNat 0)), 0, 0)]
set_option maxRecDepth 1000000 in
theorem cv1184 {gh : sxGh} (hg : sxGd sxKw gh) : sxCtV sxKw gh ct1184 := sxMeB_ok (cts := [ct58]) (cuts := cu1184) (sp := []) 725 sorry hg (by decide) (by decide) (List.forall_mem_cons.mpr ⟨cv58 hg, (fun _ h => absurd h List.not_mem_nil)⟩)
/-- LotBeliefsModel.atomOf -/
def ct1190 : sxCt := (216, 0, (3, [(1, .ofNat 0, .ofNat 5), (2, .ofNat 0, .ofNat 6)], [], [(0, .inr (false, (1, .ofNat 0))), (1, .inr (false, (2, .ofNat 0)))], [], [], [], []), [], [
  (4, [(3, .negSucc 9223372036854775807, .ofNat 9223372036854775807)], [], [], [.inr (true, (3, .ofNat 0))], [], [], [])], [], 0, 0)
def cu1190 : List sxCu := []
set_option maxRecDepth 1000000 in
theorem cv1190 {gh : sxGh} (hg : sxGd sxKw gh) : sxCtV sxKw gh ct1190 := sxMeB_ok (cts := []) (cuts := cu1190) (sp := []) 1349 sorry hg (by decide) (by decide) (fun _ h => absurd h List.not_mem_nil)
/-- LotBeliefsModel.split -/
def ct1191 : sxCt := (304, 2, (3, [(1, .negSucc 2147483647, .ofNat 2147483647), (2, .negSucc 2147483647, .ofNat 2147483647)], [], [(0, .inl 78), (1, .inr (false, (1, .ofNat 0))), (2, .inr (false, (2, .ofNat 0)))], [], [], [], []), [(78, 1), (80, 0)], [
  (5, [(3, .negSucc 2147483647, .ofNat 2147483647), (4, .ofNat 0, .ofNat 1)], [], [], [.inr (false, (3, .ofNat 0))], [(78, (0, .ofNat 0), .inr (false, (4, .ofNat 0)))], [], [])], [], 0, 0)
def cu1191 : List sxCu := [
  (45, (6, [(1, .ofNat 0, .ofNat 51), (2, .ofNat 0, .ofNat 1), (3, .negSucc 0, .ofNat 5), (4, .negSucc 2147483647, .ofNat 2147483647), (5, .ofNat 0, .ofNat 6)], [(3, 5, .negSucc 0)], [(0, .inl 78), (1, .inr (false, (1, .ofNat 0))), (2, .inr (false, (2, .ofNat 0))), (3, .inr (false, (3, .ofNat 0))), (4, .inr (false, (4, .ofNat 0))), (5, .inr (false, (5, .ofNat 0)))], [], [(78, (0, .ofNat 0), .inr (false, (0, .ofNat 0)))], [], []), ((0, 5, .ofNat 6), (0, 0, .ofNat 0), (0, 0, .ofNat 0)), 0, 0)]
set_option maxRecDepth 1000000 in
theorem cv1191 {gh : sxGh} (hg : sxGd sxKw gh) : sxCtV sxKw gh ct1191 := sxMeB_ok (cts := [ct1190, ct0]) (cuts := cu1191) (sp := []) 334 sorry hg (by decide) (by decide) (List.forall_mem_cons.mpr ⟨cv1190 hg, (List.forall_mem_cons.mpr ⟨cv0 hg, (fun _ h => absurd h List.not_mem_nil)⟩)⟩)
/-- LotBeliefsModel.split -/
def ct1192 : sxCt := (304, 2, (3, [(1, .ofNat 0, .ofNat 51), (2, .ofNat 0, .ofNat 1)], [], [(0, .inl 78), (1, .inr (false, (1, .ofNat 0))), (2, .inr (false, (2, .ofNat 0)))], [], [], [], []), [(78, 1)], [
  (4, [(3, .negSucc 2147483647, .ofNat 2147483647)], [], [], [.inr (false, (3, .ofNat 0))], [(78, (0, .ofNat 0), .inr (false, (0, .ofNat 0)))], [], [])], [], 0, 0)
def cu1192 : List sxCu := [
  (45, (6, [(1, .ofNat 0, .ofNat 51), (2, .ofNat 0, .ofNat 1), (3, .negSucc 0, .ofNat 5), (4, .negSucc 2147483647, .ofNat 2147483647), (5, .ofNat 0, .ofNat 6)], [(3, 5, .negSucc 0)], [(0, .inl 78), (1, .inr (false, (1, .ofNat 0))), (2, .inr (false, (2, .ofNat 0))), (3, .inr (false, (3, .ofNat 0))), (4, .inr (false, (4, .ofNat 0))), (5, .inr (false, (5, .ofNat 0)))], [], [(78, (0, .ofNat 0), .inr (false, (0, .ofNat 0)))], [], []), ((0, 5, .ofNat 6), (0, 0, .ofNat 0), (0, 0, .ofNat 0)), 0, 0)]
set_option maxRecDepth 1000000 in
theorem cv1192 {gh : sxGh} (hg : sxGd sxKw gh) : sxCtV sxKw gh ct1192 := sxMeB_ok (cts := [ct1190, ct0]) (cuts := cu1192) (sp := []) 200 sorry hg (by decide) (by decide) (List.forall_mem_cons.mpr ⟨cv1190 hg, (List.forall_mem_cons.mpr ⟨cv0 hg, (fun _ h => absurd h List.not_mem_nil)⟩)⟩)
/-- LotBeliefs.likely -/
def ct1229 : sxCt := (142, 3, (2, [(1, .negSucc 2147483647, .ofNat 2147483647)], [], [(0, .inl 0), (1, .inr (false, (1, .ofNat 0)))], [], [], [], []), [(30, 0)], [
  (3, [(1, .ofNat 0, .ofNat 51), (2, .negSucc 0, .ofNat 63)], [], [], [.inr (false, (2, .ofNat 0))], [], [], [])], [
  (1, (3, [(2, .negSucc 2147483647, .ofNat 2147483647)], [], [], [], [(30, (0, .ofNat 1), .inr (false, (2, .ofNat 0)))], [], []))], 1, 6)
def cu1229 : List sxCu := [
  (12, (5, [(1, .ofNat 0, .ofNat 51), (2, .negSucc 0, .ofNat 63), (3, .negSucc 0, .ofNat 63), (4, .ofNat 0, .ofNat 64)], [(2, 4, .negSucc 0), (3, 2, .ofNat 63), (3, 4, .ofNat 62)], [(0, .inl 0), (1, .inr (false, (1, .ofNat 0))), (2, .inr (false, (2, .ofNat 0))), (3, .inr (false, (3, .ofNat 0))), (4, .inr (false, (4, .ofNat 0)))], [], [], [], []), ((0, 4, .ofNat 64), (0, 0, .ofNat 0), (0, 0, .ofNat 0)), 0, 0)]
set_option maxRecDepth 1000000 in
theorem cv1229 {gh : sxGh} (hg : sxGd sxKw gh) : sxCtV sxKw gh ct1229 := sxMeB_ok (cts := [ct386, ct384, ct616]) (cuts := cu1229) (sp := []) 184 sorry hg (by decide) (by decide) (List.forall_mem_cons.mpr ⟨cv386 hg, (List.forall_mem_cons.mpr ⟨cv384 hg, (List.forall_mem_cons.mpr ⟨cv616 hg, (fun _ h => absurd h List.not_mem_nil)⟩)⟩)⟩)
/-- LotBeliefsModel.likely -/
def ct1230 : sxCt := (305, 2, (2, [(1, .negSucc 2147483647, .ofNat 2147483647)], [], [(0, .inl 78), (1, .inr (false, (1, .ofNat 0)))], [], [], [], []), [(78, 1), (80, 0)], [
  (4, [(2, .negSucc 0, .ofNat 63), (3, .ofNat 0, .ofNat 1)], [(3, 2, .ofNat 1)], [], [.inr (false, (2, .ofNat 0))], [(78, (0, .ofNat 0), .inr (false, (3, .ofNat 0)))], [], [])], [], 0, 0)
def cu1230 : List sxCu := [
  (35, (5, [(1, .ofNat 0, .ofNat 51), (2, .negSucc 0, .ofNat 63), (3, .negSucc 0, .ofNat 2147483647), (4, .ofNat 0, .ofNat 64)], [(2, 4, .negSucc 0)], [(0, .inl 78), (1, .inr (false, (1, .ofNat 0))), (2, .inr (false, (2, .ofNat 0))), (3, .inr (false, (3, .ofNat 0))), (4, .inr (false, (4, .ofNat 0)))], [], [(78, (0, .ofNat 0), .inr (false, (0, .ofNat 0)))], [], []), ((0, 4, .ofNat 64), (0, 0, .ofNat 13), (0, 0, .ofNat 0)), 0, 0), 
  (73, (8, [(1, .ofNat 0, .ofNat 51), (2, .negSucc 0, .ofNat 62), (3, .negSucc 0, .ofNat 2147483647), (4, .ofNat 0, .ofNat 63), (5, .negSucc 2147483647, .ofNat 2147483647), (6, .ofNat 0, .ofNat 12), (7, .ofNat 0, .ofNat 6)], [(2, 4, .negSucc 0)], [(0, .inl 78), (1, .inr (false, (1, .ofNat 0))), (2, .inr (false, (2, .ofNat 0))), (3, .inr (false, (3, .ofNat 0))), (4, .inr (false, (4, .ofNat 0))), (5, .inr (false, (5, .ofNat 0))), (6, .inr (false, (6, .ofNat 0)))], [], [(78, (0, .ofNat 0), .inr (false, (0, .ofNat 0))), (78, (0, .ofNat 12), .inl 82), (78, (0, .ofNat 19), .inl 89), (82, (0, .ofNat 0), .inr (false, (7, .ofNat 0)))], [], []), ((0, 4, .ofNat 64), (0, 6, .ofNat 12), (0, 0, .ofNat 0)), 0, 0)]
set_option maxRecDepth 1000000 in
theorem cv1230 {gh : sxGh} (hg : sxGd sxKw gh) : sxCtV sxKw gh ct1230 := sxMeB_ok (cts := []) (cuts := cu1230) (sp := []) 228 sorry hg (by decide) (by decide) (fun _ h => absurd h List.not_mem_nil)
/-- LotBeliefsModel.likely -/
def ct1231 : sxCt := (305, 2, (2, [(1, .ofNat 0, .ofNat 51)], [], [(0, .inl 78), (1, .inr (false, (1, .ofNat 0)))], [], [], [], []), [(78, 1)], [
  (3, [(2, .negSucc 0, .ofNat 63)], [], [], [.inr (false, (2, .ofNat 0))], [(78, (0, .ofNat 0), .inr (false, (0, .ofNat 0)))], [], [])], [], 0, 0)
def cu1231 : List sxCu := [
  (35, (5, [(1, .ofNat 0, .ofNat 51), (2, .negSucc 0, .ofNat 63), (3, .negSucc 0, .ofNat 2147483647), (4, .ofNat 0, .ofNat 64)], [(2, 4, .negSucc 0)], [(0, .inl 78), (1, .inr (false, (1, .ofNat 0))), (2, .inr (false, (2, .ofNat 0))), (3, .inr (false, (3, .ofNat 0))), (4, .inr (false, (4, .ofNat 0)))], [], [(78, (0, .ofNat 0), .inr (false, (0, .ofNat 0)))], [], []), ((0, 4, .ofNat 64), (0, 0, .ofNat 13), (0, 0, .ofNat 0)), 0, 0), 
  (73, (8, [(1, .ofNat 0, .ofNat 51), (2, .negSucc 0, .ofNat 62), (3, .negSucc 0, .ofNat 2147483647), (4, .ofNat 0, .ofNat 63), (5, .negSucc 2147483647, .ofNat 2147483647), (6, .ofNat 0, .ofNat 12), (7, .ofNat 0, .ofNat 6)], [(2, 4, .negSucc 0)], [(0, .inl 78), (1, .inr (false, (1, .ofNat 0))), (2, .inr (false, (2, .ofNat 0))), (3, .inr (false, (3, .ofNat 0))), (4, .inr (false, (4, .ofNat 0))), (5, .inr (false, (5, .ofNat 0))), (6, .inr (false, (6, .ofNat 0)))], [], [(78, (0, .ofNat 0), .inr (false, (0, .ofNat 0))), (78, (0, .ofNat 12), .inl 82), (78, (0, .ofNat 19), .inl 89), (82, (0, .ofNat 0), .inr (false, (7, .ofNat 0)))], [], []), ((0, 4, .ofNat 64), (0, 6, .ofNat 12), (0, 0, .ofNat 0)), 0, 0)]
set_option maxRecDepth 1000000 in
theorem cv1231 {gh : sxGh} (hg : sxGd sxKw gh) : sxCtV sxKw gh ct1231 := sxMeB_ok (cts := []) (cuts := cu1231) (sp := []) 160 sorry hg (by decide) (by decide) (fun _ h => absurd h List.not_mem_nil)
/-- LotBeliefs.copyOrder -/
def ct1235 : sxCt := (183, 0, (2, [(1, .ofNat 0, .ofNat 5)], [], [(0, .inl 0), (1, .inr (false, (1, .ofNat 0)))], [], [], [], []), [(31, 0)], [
  (2, [], [], [], [], [], [], [])], [], 0, 0)
def cu1235 : List sxCu := [
  (2, (3, [(1, .ofNat 0, .ofNat 5), (2, .ofNat 0, .ofNat 12)], [], [(0, .inl 0), (1, .inr (false, (1, .ofNat 0))), (2, .inr (false, (2, .ofNat 0)))], [], [], [], []), ((0, 2, .ofNat 12), (0, 0, .ofNat 0), (0, 0, .ofNat 0)), 0, 0)]
set_option maxRecDepth 1000000 in
theorem cv1235 {gh : sxGh} (hg : sxGd sxKw gh) : sxCtV sxKw gh ct1235 := sxMeB_ok (cts := []) (cuts := cu1235) (sp := []) 111 sorry hg (by decide) (by decide) (fun _ h => absurd h List.not_mem_nil)
/-- LotBeliefs.Course.bury -/
def ct1261 : sxCt := (5, 1, (2, [(1, .ofNat 0, .ofNat 16)], [], [(0, .inl 32), (1, .inr (false, (1, .ofNat 0)))], [], [], [], []), [(32, 11), (32, 12), (34, 0), (36, 0), (37, 0)], [
  (3, [(2, .negSucc 2147483647, .ofNat 2147483647)], [], [], [], [(32, (0, .ofNat 11), .inr (false, (2, .ofNat 0)))], [], [])], [], 0, 0)
def cu1261 : List sxCu := [
  (22, (5, [(1, .ofNat 0, .ofNat 16), (2, .ofNat 0, .ofNat 17), (3, .ofNat 0, .ofNat 17), (4, .negSucc 2147483647, .ofNat 2147483647)], [(2, 3, .ofNat 0)], [(0, .inl 32), (1, .inr (false, (1, .ofNat 0))), (2, .inr (false, (2, .ofNat 0))), (3, .inr (false, (3, .ofNat 0)))], [], [(32, (0, .ofNat 11), .inr (false, (4, .ofNat 0)))], [], []), ((0, 3, .ofNat 17), (0, 0, .ofNat 0), (0, 0, .ofNat 0)), 0, 0)]
set_option maxRecDepth 1000000 in
theorem cv1261 {gh : sxGh} (hg : sxGd sxKw gh) : sxCtV sxKw gh ct1261 := sxMeB_ok (cts := [ct394, ct395]) (cuts := cu1261) (sp := []) 185 sorry hg (by decide) (by decide) (List.forall_mem_cons.mpr ⟨cv394 hg, (List.forall_mem_cons.mpr ⟨cv395 hg, (fun _ h => absurd h List.not_mem_nil)⟩)⟩)
/-- LotBeliefs.Course.lives -/
def ct1262 : sxCt := (6, 0, (3, [(1, .ofNat 0, .ofNat 16), (2, .ofNat 0, .ofNat 16)], [], [(0, .inl 32), (1, .inr (false, (1, .ofNat 0))), (2, .inr (false, (2, .ofNat 0)))], [], [], [], []), [(33000036, 0)], [
  (3, [], [], [], [.inr (false, (0, .ofNat 0))], [], [], []), 
  (3, [], [], [], [.inr (false, (0, .ofNat 1))], [], [], [])], [], 0, 0)
def cu1262 : List sxCu := []
set_option maxRecDepth 1000000 in
theorem cv1262 {gh : sxGh} (hg : sxGd sxKw gh) : sxCtV sxKw gh ct1262 := sxMeB_ok (cts := []) (cuts := cu1262) (sp := []) 196 sorry hg (by decide) (by decide) (fun _ h => absurd h List.not_mem_nil)
/-- LotBeliefs.Tongue.tell -/
def ct1263 : sxCt := (98, 1, (7, [(1, .ofNat 0, .ofNat 16), (2, .ofNat 0, .ofNat 16), (3, .negSucc 2147483647, .ofNat 2147483647), (4, .ofNat 0, .ofNat 1), (5, .ofNat 0, .ofNat 16), (6, .ofNat 0, .ofNat 17)], [], [(0, .inl 23), (1, .inl 11), (2, .inr (false, (1, .ofNat 0))), (3, .inr (false, (2, .ofNat 0))), (4, .inr (false, (3, .ofNat 0))), (5, .inr (false, (4, .ofNat 0))), (6, .inr (false, (5, .ofNat 0))), (7, .inr (false, (6, .ofNat 0)))], [], [], [], []), [(25, 0)], [
  (11, [(7, .negSucc 2147483647, .ofNat 2147483647), (8, .negSucc 2147483647, .ofNat 2147483647), (9, .ofNat 0, .ofNat 127), (10, .ofNat 0, .ofNat 127)], [], [], [], [(25, (0, .ofNat 0), .inr (false, (3, .ofNat 0))), (25, (0, .ofNat 1), .inr (false, (4, .ofNat 0))), (25, (0, .ofNat 2), .inr (false, (7, .ofNat 0))), (25, (0, .ofNat 3), .inr (false, (8, .ofNat 0))), (25, (0, .ofNat 4), .inr (false, (1, .ofNat 0))), (25, (0, .ofNat 5), .inr (false, (2, .ofNat 0))), (25, (0, .ofNat 6), .inr (false, (5, .ofNat 0))), (25, (0, .ofNat 7), .inr (false, (6, .ofNat 0))), (25, (0, .ofNat 8), .inr (false, (9, .ofNat 0))), (25, (0, .ofNat 9), .inr (false, (10, .ofNat 0)))], [], [])], [], 0, 0)
def cu1263 : List sxCu := []
set_option maxRecDepth 1000000 in
theorem cv1263 {gh : sxGh} (hg : sxGd sxKw gh) : sxCtV sxKw gh ct1263 := sxMeB_ok (cts := [ct58]) (cuts := cu1263) (sp := []) 132 sorry hg (by decide) (by decide) (List.forall_mem_cons.mpr ⟨cv58 hg, (fun _ h => absurd h List.not_mem_nil)⟩)
/-- LotBeliefs.Tongue.tell -/
def ct1264 : sxCt := (98, 1, (7, [(1, .ofNat 0, .ofNat 16), (2, .ofNat 0, .ofNat 16), (3, .negSucc 2147483647, .ofNat 2147483647), (4, .ofNat 0, .ofNat 1), (5, .ofNat 0, .ofNat 16), (6, .ofNat 0, .ofNat 17)], [], [(0, .inl 19), (1, .inl 11), (2, .inr (false, (1, .ofNat 0))), (3, .inr (false, (2, .ofNat 0))), (4, .inr (false, (3, .ofNat 0))), (5, .inr (false, (4, .ofNat 0))), (6, .inr (false, (5, .ofNat 0))), (7, .inr (false, (6, .ofNat 0)))], [], [], [], []), [(21, 0)], [
  (11, [(7, .negSucc 2147483647, .ofNat 2147483647), (8, .negSucc 2147483647, .ofNat 2147483647), (9, .ofNat 0, .ofNat 127), (10, .ofNat 0, .ofNat 127)], [], [], [], [(21, (0, .ofNat 0), .inr (false, (3, .ofNat 0))), (21, (0, .ofNat 1), .inr (false, (4, .ofNat 0))), (21, (0, .ofNat 2), .inr (false, (7, .ofNat 0))), (21, (0, .ofNat 3), .inr (false, (8, .ofNat 0))), (21, (0, .ofNat 4), .inr (false, (1, .ofNat 0))), (21, (0, .ofNat 5), .inr (false, (2, .ofNat 0))), (21, (0, .ofNat 6), .inr (false, (5, .ofNat 0))), (21, (0, .ofNat 7), .inr (false, (6, .ofNat 0))), (21, (0, .ofNat 8), .inr (false, (9, .ofNat 0))), (21, (0, .ofNat 9), .inr (false, (10, .ofNat 0)))], [], [])], [], 0, 0)
def cu1264 : List sxCu := []
set_option maxRecDepth 1000000 in
theorem cv1264 {gh : sxGh} (hg : sxGd sxKw gh) : sxCtV sxKw gh ct1264 := sxMeB_ok (cts := [ct58]) (cuts := cu1264) (sp := []) 132 sorry hg (by decide) (by decide) (List.forall_mem_cons.mpr ⟨cv58 hg, (fun _ h => absurd h List.not_mem_nil)⟩)
/-- LotBeliefs.Tongue.tell -/
def ct1265 : sxCt := (98, 1, (7, [(1, .ofNat 0, .ofNat 16), (2, .ofNat 0, .ofNat 16), (3, .negSucc 2147483647, .ofNat 2147483647), (4, .negSucc 2147483647, .ofNat 2147483647), (5, .ofNat 0, .ofNat 16), (6, .ofNat 0, .ofNat 17)], [], [(0, .inl 23), (1, .inl 11), (2, .inr (false, (1, .ofNat 0))), (3, .inr (false, (2, .ofNat 0))), (4, .inr (false, (3, .ofNat 0))), (5, .inr (false, (4, .ofNat 0))), (6, .inr (false, (5, .ofNat 0))), (7, .inr (false, (6, .ofNat 0)))], [], [], [], []), [(25, 0)], [
  (11, [(7, .negSucc 2147483647, .ofNat 2147483647), (8, .negSucc 2147483647, .ofNat 2147483647), (9, .ofNat 0, .ofNat 127), (10, .ofNat 0, .ofNat 127)], [], [], [], [(25, (0, .ofNat 0), .inr (false, (3, .ofNat 0))), (25, (0, .ofNat 1), .inr (false, (4, .ofNat 0))), (25, (0, .ofNat 2), .inr (false, (7, .ofNat 0))), (25, (0, .ofNat 3), .inr (false, (8, .ofNat 0))), (25, (0, .ofNat 4), .inr (false, (1, .ofNat 0))), (25, (0, .ofNat 5), .inr (false, (2, .ofNat 0))), (25, (0, .ofNat 6), .inr (false, (5, .ofNat 0))), (25, (0, .ofNat 7), .inr (false, (6, .ofNat 0))), (25, (0, .ofNat 8), .inr (false, (9, .ofNat 0))), (25, (0, .ofNat 9), .inr (false, (10, .ofNat 0)))], [], [])], [], 0, 0)
def cu1265 : List sxCu := []
set_option maxRecDepth 1000000 in
theorem cv1265 {gh : sxGh} (hg : sxGd sxKw gh) : sxCtV sxKw gh ct1265 := sxMeB_ok (cts := [ct58]) (cuts := cu1265) (sp := []) 132 sorry hg (by decide) (by decide) (List.forall_mem_cons.mpr ⟨cv58 hg, (fun _ h => absurd h List.not_mem_nil)⟩)
/-- LotBeliefs.Tongue.tell -/
def ct1266 : sxCt := (98, 1, (7, [(1, .ofNat 0, .ofNat 16), (2, .ofNat 0, .ofNat 16), (3, .negSucc 2147483647, .ofNat 2147483647), (4, .negSucc 2147483647, .ofNat 2147483647), (5, .ofNat 0, .ofNat 16), (6, .ofNat 0, .ofNat 17)], [], [(0, .inl 19), (1, .inl 11), (2, .inr (false, (1, .ofNat 0))), (3, .inr (false, (2, .ofNat 0))), (4, .inr (false, (3, .ofNat 0))), (5, .inr (false, (4, .ofNat 0))), (6, .inr (false, (5, .ofNat 0))), (7, .inr (false, (6, .ofNat 0)))], [], [], [], []), [(21, 0)], [
  (11, [(7, .negSucc 2147483647, .ofNat 2147483647), (8, .negSucc 2147483647, .ofNat 2147483647), (9, .ofNat 0, .ofNat 127), (10, .ofNat 0, .ofNat 127)], [], [], [], [(21, (0, .ofNat 0), .inr (false, (3, .ofNat 0))), (21, (0, .ofNat 1), .inr (false, (4, .ofNat 0))), (21, (0, .ofNat 2), .inr (false, (7, .ofNat 0))), (21, (0, .ofNat 3), .inr (false, (8, .ofNat 0))), (21, (0, .ofNat 4), .inr (false, (1, .ofNat 0))), (21, (0, .ofNat 5), .inr (false, (2, .ofNat 0))), (21, (0, .ofNat 6), .inr (false, (5, .ofNat 0))), (21, (0, .ofNat 7), .inr (false, (6, .ofNat 0))), (21, (0, .ofNat 8), .inr (false, (9, .ofNat 0))), (21, (0, .ofNat 9), .inr (false, (10, .ofNat 0)))], [], [])], [], 0, 0)
def cu1266 : List sxCu := []
set_option maxRecDepth 1000000 in
theorem cv1266 {gh : sxGh} (hg : sxGd sxKw gh) : sxCtV sxKw gh ct1266 := sxMeB_ok (cts := [ct58]) (cuts := cu1266) (sp := []) 132 sorry hg (by decide) (by decide) (List.forall_mem_cons.mpr ⟨cv58 hg, (fun _ h => absurd h List.not_mem_nil)⟩)
/-- LotBeliefs.Tongue.tell -/
def ct1267 : sxCt := (98, 1, (7, [(1, .ofNat 0, .ofNat 16), (2, .ofNat 0, .ofNat 16), (3, .negSucc 2147483647, .ofNat 2147483647), (4, .ofNat 0, .ofNat 1), (5, .ofNat 0, .ofNat 16), (6, .ofNat 0, .ofNat 17)], [], [(0, .inl 23), (1, .inl 3), (2, .inr (false, (1, .ofNat 0))), (3, .inr (false, (2, .ofNat 0))), (4, .inr (false, (3, .ofNat 0))), (5, .inr (false, (4, .ofNat 0))), (6, .inr (false, (5, .ofNat 0))), (7, .inr (false, (6, .ofNat 0)))], [], [], [], []), [(25, 0)], [
  (11, [(7, .negSucc 2147483647, .ofNat 2147483647), (8, .negSucc 2147483647, .ofNat 2147483647), (9, .ofNat 0, .ofNat 127), (10, .ofNat 0, .ofNat 127)], [], [], [], [(25, (0, .ofNat 0), .inr (false, (3, .ofNat 0))), (25, (0, .ofNat 1), .inr (false, (4, .ofNat 0))), (25, (0, .ofNat 2), .inr (false, (7, .ofNat 0))), (25, (0, .ofNat 3), .inr (false, (8, .ofNat 0))), (25, (0, .ofNat 4), .inr (false, (1, .ofNat 0))), (25, (0, .ofNat 5), .inr (false, (2, .ofNat 0))), (25, (0, .ofNat 6), .inr (false, (5, .ofNat 0))), (25, (0, .ofNat 7), .inr (false, (6, .ofNat 0))), (25, (0, .ofNat 8), .inr (false, (9, .ofNat 0))), (25, (0, .ofNat 9), .inr (false, (10, .ofNat 0)))], [], [])], [], 0, 0)
def cu1267 : List sxCu := []
set_option maxRecDepth 1000000 in
theorem cv1267 {gh : sxGh} (hg : sxGd sxKw gh) : sxCtV sxKw gh ct1267 := sxMeB_ok (cts := [ct58]) (cuts := cu1267) (sp := []) 132 sorry hg (by decide) (by decide) (List.forall_mem_cons.mpr ⟨cv58 hg, (fun _ h => absurd h List.not_mem_nil)⟩)
/-- LotBeliefs.Tongue.tell -/
def ct1268 : sxCt := (98, 1, (7, [(1, .ofNat 0, .ofNat 16), (2, .ofNat 0, .ofNat 16), (3, .negSucc 2147483647, .ofNat 2147483647), (4, .ofNat 0, .ofNat 1), (5, .ofNat 0, .ofNat 16), (6, .ofNat 0, .ofNat 17)], [], [(0, .inl 19), (1, .inl 3), (2, .inr (false, (1, .ofNat 0))), (3, .inr (false, (2, .ofNat 0))), (4, .inr (false, (3, .ofNat 0))), (5, .inr (false, (4, .ofNat 0))), (6, .inr (false, (5, .ofNat 0))), (7, .inr (false, (6, .ofNat 0)))], [], [], [], []), [(21, 0)], [
  (11, [(7, .negSucc 2147483647, .ofNat 2147483647), (8, .negSucc 2147483647, .ofNat 2147483647), (9, .ofNat 0, .ofNat 127), (10, .ofNat 0, .ofNat 127)], [], [], [], [(21, (0, .ofNat 0), .inr (false, (3, .ofNat 0))), (21, (0, .ofNat 1), .inr (false, (4, .ofNat 0))), (21, (0, .ofNat 2), .inr (false, (7, .ofNat 0))), (21, (0, .ofNat 3), .inr (false, (8, .ofNat 0))), (21, (0, .ofNat 4), .inr (false, (1, .ofNat 0))), (21, (0, .ofNat 5), .inr (false, (2, .ofNat 0))), (21, (0, .ofNat 6), .inr (false, (5, .ofNat 0))), (21, (0, .ofNat 7), .inr (false, (6, .ofNat 0))), (21, (0, .ofNat 8), .inr (false, (9, .ofNat 0))), (21, (0, .ofNat 9), .inr (false, (10, .ofNat 0)))], [], [])], [], 0, 0)
def cu1268 : List sxCu := []
set_option maxRecDepth 1000000 in
theorem cv1268 {gh : sxGh} (hg : sxGd sxKw gh) : sxCtV sxKw gh ct1268 := sxMeB_ok (cts := [ct58]) (cuts := cu1268) (sp := []) 132 sorry hg (by decide) (by decide) (List.forall_mem_cons.mpr ⟨cv58 hg, (fun _ h => absurd h List.not_mem_nil)⟩)
/-- LotBeliefs.Tongue.tell -/
def ct1269 : sxCt := (98, 1, (7, [(1, .ofNat 0, .ofNat 16), (2, .ofNat 0, .ofNat 16), (3, .negSucc 2147483647, .ofNat 2147483647), (4, .negSucc 2147483647, .ofNat 2147483647), (5, .ofNat 0, .ofNat 16), (6, .ofNat 0, .ofNat 17)], [], [(0, .inl 23), (1, .inl 3), (2, .inr (false, (1, .ofNat 0))), (3, .inr (false, (2, .ofNat 0))), (4, .inr (false, (3, .ofNat 0))), (5, .inr (false, (4, .ofNat 0))), (6, .inr (false, (5, .ofNat 0))), (7, .inr (false, (6, .ofNat 0)))], [], [], [], []), [(25, 0)], [
  (11, [(7, .negSucc 2147483647, .ofNat 2147483647), (8, .negSucc 2147483647, .ofNat 2147483647), (9, .ofNat 0, .ofNat 127), (10, .ofNat 0, .ofNat 127)], [], [], [], [(25, (0, .ofNat 0), .inr (false, (3, .ofNat 0))), (25, (0, .ofNat 1), .inr (false, (4, .ofNat 0))), (25, (0, .ofNat 2), .inr (false, (7, .ofNat 0))), (25, (0, .ofNat 3), .inr (false, (8, .ofNat 0))), (25, (0, .ofNat 4), .inr (false, (1, .ofNat 0))), (25, (0, .ofNat 5), .inr (false, (2, .ofNat 0))), (25, (0, .ofNat 6), .inr (false, (5, .ofNat 0))), (25, (0, .ofNat 7), .inr (false, (6, .ofNat 0))), (25, (0, .ofNat 8), .inr (false, (9, .ofNat 0))), (25, (0, .ofNat 9), .inr (false, (10, .ofNat 0)))], [], [])], [], 0, 0)
def cu1269 : List sxCu := []
set_option maxRecDepth 1000000 in
theorem cv1269 {gh : sxGh} (hg : sxGd sxKw gh) : sxCtV sxKw gh ct1269 := sxMeB_ok (cts := [ct58]) (cuts := cu1269) (sp := []) 132 sorry hg (by decide) (by decide) (List.forall_mem_cons.mpr ⟨cv58 hg, (fun _ h => absurd h List.not_mem_nil)⟩)
/-- LotBeliefs.Tongue.tell -/
def ct1270 : sxCt := (98, 1, (7, [(1, .ofNat 0, .ofNat 16), (2, .ofNat 0, .ofNat 16), (3, .negSucc 2147483647, .ofNat 2147483647), (4, .negSucc 2147483647, .ofNat 2147483647), (5, .ofNat 0, .ofNat 16), (6, .ofNat 0, .ofNat 17)], [], [(0, .inl 19), (1, .inl 3), (2, .inr (false, (1, .ofNat 0))), (3, .inr (false, (2, .ofNat 0))), (4, .inr (false, (3, .ofNat 0))), (5, .inr (false, (4, .ofNat 0))), (6, .inr (false, (5, .ofNat 0))), (7, .inr (false, (6, .ofNat 0)))], [], [], [], []), [(21, 0)], [
  (11, [(7, .negSucc 2147483647, .ofNat 2147483647), (8, .negSucc 2147483647, .ofNat 2147483647), (9, .ofNat 0, .ofNat 127), (10, .ofNat 0, .ofNat 127)], [], [], [], [(21, (0, .ofNat 0), .inr (false, (3, .ofNat 0))), (21, (0, .ofNat 1), .inr (false, (4, .ofNat 0))), (21, (0, .ofNat 2), .inr (false, (7, .ofNat 0))), (21, (0, .ofNat 3), .inr (false, (8, .ofNat 0))), (21, (0, .ofNat 4), .inr (false, (1, .ofNat 0))), (21, (0, .ofNat 5), .inr (false, (2, .ofNat 0))), (21, (0, .ofNat 6), .inr (false, (5, .ofNat 0))), (21, (0, .ofNat 7), .inr (false, (6, .ofNat 0))), (21, (0, .ofNat 8), .inr (false, (9, .ofNat 0))), (21, (0, .ofNat 9), .inr (false, (10, .ofNat 0)))], [], [])], [], 0, 0)
def cu1270 : List sxCu := []
set_option maxRecDepth 1000000 in
theorem cv1270 {gh : sxGh} (hg : sxGd sxKw gh) : sxCtV sxKw gh ct1270 := sxMeB_ok (cts := [ct58]) (cuts := cu1270) (sp := []) 132 sorry hg (by decide) (by decide) (List.forall_mem_cons.mpr ⟨cv58 hg, (fun _ h => absurd h List.not_mem_nil)⟩)
/-- LotBeliefs.Course.whoFalls -/
def ct1271 : sxCt := (9, 2, (4, [(1, .ofNat 0, .ofNat 16), (2, .ofNat 0, .ofNat 16), (3, .ofNat 0, .ofNat 16)], [], [(0, .inl 32), (1, .inr (false, (1, .ofNat 0))), (2, .inr (false, (2, .ofNat 0))), (3, .inr (false, (3, .ofNat 0)))], [], [], [], []), [(21, 0), (22, 0), (25, 0), (26, 0)], [
  (5, [(4, .ofNat 0, .ofNat 2147480647)], [], [], [.inr (false, (4, .ofNat 0))], [], [], [])], [], 0, 0)
def cu1271 : List sxCu := []
set_option maxRecDepth 1000000 in
theorem cv1271 {gh : sxGh} (hg : sxGd sxKw gh) : sxCtV sxKw gh ct1271 := sxMeB_ok (cts := [ct1263, ct1264, ct1267, ct1268, ct1265, ct1266, ct1269, ct1270, ct401, ct403]) (cuts := cu1271) (sp := []) 300 sorry hg (by decide) (by decide) (List.forall_mem_cons.mpr ⟨cv1263 hg, (List.forall_mem_cons.mpr ⟨cv1264 hg, (List.forall_mem_cons.mpr ⟨cv1267 hg, (List.forall_mem_cons.mpr ⟨cv1268 hg, (List.forall_mem_cons.mpr ⟨cv1265 hg, (List.forall_mem_cons.mpr ⟨cv1266 hg, (List.forall_mem_cons.mpr ⟨cv1269 hg, (List.forall_mem_cons.mpr ⟨cv1270 hg, (List.forall_mem_cons.mpr ⟨cv401 hg, (List.forall_mem_cons.mpr ⟨cv403 hg, (fun _ h => absurd h List.not_mem_nil)⟩)⟩)⟩)⟩)⟩)⟩)⟩)⟩)⟩)⟩)
/-- LotBeliefs.Course.stands -/
def ct1272 : sxCt := (7, 3, (4, [(1, .ofNat 0, .ofNat 16), (2, .ofNat 0, .ofNat 16), (3, .ofNat 0, .ofNat 17)], [], [(0, .inl 32), (1, .inr (false, (1, .ofNat 0))), (2, .inr (false, (2, .ofNat 0)))], [], [(32, (0, .ofNat 10), .inr (false, (3, .ofNat 0)))], [], []), [(21, 0), (22, 0), (25, 0), (26, 0), (32, 11), (32, 12), (34000037, 0)], [
  (5, [(4, .negSucc 2147483647, .ofNat 2147483647)], [], [], [.inr (false, (0, .ofNat 1))], [(32, (0, .ofNat 10), .inr (false, (3, .ofNat 0))), (32, (0, .ofNat 11), .inr (false, (4, .ofNat 0)))], [], []), 
  (7, [(3, .ofNat 1, .ofNat 17), (4, .ofNat 0, .ofNat 1), (5, .ofNat 0, .ofNat 17), (6, .negSucc 2147483647, .ofNat 2147483647)], [(5, 3, .ofNat 0)], [], [.inr (false, (4, .ofNat 0))], [(32, (0, .ofNat 10), .inr (false, (5, .ofNat 0))), (32, (0, .ofNat 11), .inr (false, (6, .ofNat 0)))], [], [])], [], 0, 0)
def cu1272 : List sxCu := [
  (38, (6, [(1, .ofNat 0, .ofNat 16), (2, .ofNat 0, .ofNat 16), (3, .ofNat 0, .ofNat 17), (4, .negSucc 2147483647, .ofNat 2147483647), (5, .negSucc 2147483647, .ofNat 2147483647)], [], [(0, .inl 32), (1, .inr (false, (1, .ofNat 0))), (2, .inr (false, (2, .ofNat 0))), (3, .inr (false, (4, .ofNat 0))), (4, .inr (false, (3, .ofNat 0))), (5, .inr (false, (0, .ofNat 0))), (6, .inr (false, (0, .ofNat 1))), (7, .inr (false, (0, .ofNat 0)))], [], [(32, (0, .ofNat 10), .inr (false, (3, .ofNat 0))), (32, (0, .ofNat 11), .inr (false, (5, .ofNat 0)))], [], []), ((0, 0, .ofNat 17), (0, 0, .ofNat 0), (0, 0, .ofNat 0)), 0, 0), 
  (38, (5, [(1, .ofNat 0, .ofNat 16), (2, .ofNat 0, .ofNat 16), (3, .ofNat 0, .ofNat 17), (4, .negSucc 2147483647, .ofNat 2147483647)], [], [(0, .inl 32), (1, .inr (false, (1, .ofNat 0))), (2, .inr (false, (2, .ofNat 0))), (3, .inr (false, (0, .ofNat 0))), (4, .inr (false, (0, .ofNat 0))), (5, .inr (false, (0, .ofNat 0))), (6, .inr (false, (0, .ofNat 1))), (7, .inr (false, (0, .ofNat 0)))], [], [(32, (0, .ofNat 10), .inr (false, (3, .ofNat 0))), (32, (0, .ofNat 11), .inr (false, (4, .ofNat 0)))], [], []), ((0, 0, .ofNat 17), (0, 0, .ofNat 0), (0, 0, .ofNat 0)), 0, 0), 
  (38, (11, [(1, .ofNat 0, .ofNat 16), (2, .ofNat 0, .ofNat 16), (3, .ofNat 1, .ofNat 17), (4, .negSucc 2147483647, .ofNat 2147483647), (5, .ofNat 0, .ofNat 1), (6, .ofNat 0, .ofNat 1), (7, .ofNat 0, .ofNat 16), (8, .negSucc 0, .ofNat 2147480647), (9, .ofNat 0, .ofNat 17), (10, .negSucc 2147483647, .ofNat 2147483647)], [(3, 9, .ofNat 1), (9, 3, .ofNat 0)], [(0, .inl 32), (1, .inr (false, (1, .ofNat 0))), (2, .inr (false, (2, .ofNat 0))), (3, .inr (false, (4, .ofNat 0))), (4, .inr (false, (3, .ofNat 0))), (5, .inr (false, (5, .ofNat 0))), (6, .inr (false, (6, .ofNat 0))), (7, .inr (false, (0, .ofNat 1))), (8, .inr (false, (7, .ofNat 0))), (9, .inr (false, (8, .ofNat 0)))], [], [(32, (0, .ofNat 9), .inl 37), (32, (0, .ofNat 10), .inr (false, (9, .ofNat 0))), (32, (0, .ofNat 11), .inr (false, (10, .ofNat 0))), (37, (0, .ofNat 0), .inr (false, (7, .ofNat 0)))], [], []), ((0, 0, .ofNat 16), (0, 0, .ofNat 0), (0, 0, .ofNat 0)), 0, 0), 
  (38, (11, [(1, .ofNat 0, .ofNat 16), (2, .ofNat 0, .ofNat 16), (3, .ofNat 10, .ofNat 17), (4, .negSucc 2147483647, .ofNat 2147483647), (5, .ofNat 0, .ofNat 10), (6, .ofNat 0, .ofNat 1), (7, .ofNat 0, .ofNat 16), (8, .negSucc 0, .ofNat 2147480647), (9, .ofNat 0, .ofNat 17), (10, .negSucc 2147483647, .ofNat 2147483647)], [(3, 9, .ofNat 10), (9, 3, .ofNat 0)], [(0, .inl 32), (1, .inr (false, (1, .ofNat 0))), (2, .inr (false, (2, .ofNat 0))), (3, .inr (false, (4, .ofNat 0))), (4, .inr (false, (3, .ofNat 0))), (5, .inr (false, (5, .ofNat 0))), (6, .inr (false, (6, .ofNat 0))), (7, .inr (false, (0, .ofNat 10))), (8, .inr (false, (7, .ofNat 0))), (9, .inr (false, (8, .ofNat 0)))], [], [(32, (0, .ofNat 9), .inl 37), (32, (0, .ofNat 10), .inr (false, (9, .ofNat 0))), (32, (0, .ofNat 11), .inr (false, (10, .ofNat 0)))], [], []), ((0, 0, .ofNat 7), (0, 0, .ofNat 0), (0, 0, .ofNat 0)), 0, 0), 
  (38, (11, [(1, .ofNat 0, .ofNat 16), (2, .ofNat 0, .ofNat 16), (3, .ofNat 11, .ofNat 17), (4, .negSucc 2147483647, .ofNat 2147483647), (5, .ofNat 0, .ofNat 11), (6, .ofNat 0, .ofNat 1), (7, .ofNat 0, .ofNat 16), (8, .negSucc 0, .ofNat 2147480647), (9, .ofNat 0, .ofNat 17), (10, .negSucc 2147483647, .ofNat 2147483647)], [(3, 9, .ofNat 11), (9, 3, .ofNat 0)], [(0, .inl 32), (1, .inr (false, (1, .ofNat 0))), (2, .inr (false, (2, .ofNat 0))), (3, .inr (false, (4, .ofNat 0))), (4, .inr (false, (3, .ofNat 0))), (5, .inr (false, (5, .ofNat 0))), (6, .inr (false, (6, .ofNat 0))), (7, .inr (false, (0, .ofNat 11))), (8, .inr (false, (7, .ofNat 0))), (9, .inr (false, (8, .ofNat 0)))], [], [(32, (0, .ofNat 9), .inl 37), (32, (0, .ofNat 10), .inr (false, (9, .ofNat 0))), (32, (0, .ofNat 11), .inr (false, (10, .ofNat 0)))], [], []), ((0, 0, .ofNat 6), (0, 0, .ofNat 0), (0, 0, .ofNat 0)), 0, 0), 
  (38, (11, [(1, .ofNat 0, .ofNat 16), (2, .ofNat 0, .ofNat 16), (3, .ofNat 12, .ofNat 17), (4, .negSucc 2147483647, .ofNat 2147483647), (5, .ofNat 0, .ofNat 12), (6, .ofNat 0, .ofNat 1), (7, .ofNat 0, .ofNat 16), (8, .negSucc 0, .ofNat 2147480647), (9, .ofNat 0, .ofNat 17), (10, .negSucc 2147483647, .ofNat 2147483647)], [(3, 9, .ofNat 12), (9, 3, .ofNat 0)], [(0, .inl 32), (1, .inr (false, (1, .ofNat 0))), (2, .inr (false, (2, .ofNat 0))), (3, .inr (false, (4, .ofNat 0))), (4, .inr (false, (3, .ofNat 0))), (5, .inr (false, (5, .ofNat 0))), (6, .inr (false, (6, .ofNat 0))), (7, .inr (false, (0, .ofNat 12))), (8, .inr (false, (7, .ofNat 0))), (9, .inr (false, (8, .ofNat 0)))], [], [(32, (0, .ofNat 9), .inl 37), (32, (0, .ofNat 10), .inr (false, (9, .ofNat 0))), (32, (0, .ofNat 11), .inr (false, (10, .ofNat 0)))], [], []), ((0, 0, .ofNat 5), (0, 0, .ofNat 0), (0, 0, .ofNat 0)), 0, 0), 
  (38, (11, [(1, .ofNat 0, .ofNat 16), (2, .ofNat 0, .ofNat 16), (3, .ofNat 13, .ofNat 17), (4, .negSucc 2147483647, .ofNat 2147483647), (5, .ofNat 0, .ofNat 13), (6, .ofNat 0, .ofNat 1), (7, .ofNat 0, .ofNat 16), (8, .negSucc 0, .ofNat 2147480647), (9, .ofNat 0, .ofNat 17), (10, .negSucc 2147483647, .ofNat 2147483647)], [(3, 9, .ofNat 13), (9, 3, .ofNat 0)], [(0, .inl 32), (1, .inr (false, (1, .ofNat 0))), (2, .inr (false, (2, .ofNat 0))), (3, .inr (false, (4, .ofNat 0))), (4, .inr (false, (3, .ofNat 0))), (5, .inr (false, (5, .ofNat 0))), (6, .inr (false, (6, .ofNat 0))), (7, .inr (false, (0, .ofNat 13))), (8, .inr (false, (7, .ofNat 0))), (9, .inr (false, (8, .ofNat 0)))], [], [(32, (0, .ofNat 9), .inl 37), (32, (0, .ofNat 10), .inr (false, (9, .ofNat 0))), (32, (0, .ofNat 11), .inr (false, (10, .ofNat 0)))], [], []), ((0, 0, .ofNat 4), (0, 0, .ofNat 0), (0, 0, .ofNat 0)), 0, 0), 
  (38, (11, [(1, .ofNat 0, .ofNat 16), (2, .ofNat 0, .ofNat 16), (3, .ofNat 14, .ofNat 17), (4, .negSucc 2147483647, .ofNat 2147483647), (5, .ofNat 0, .ofNat 14), (6, .ofNat 0, .ofNat 1), (7, .ofNat 0, .ofNat 16), (8, .negSucc 0, .ofNat 2147480647), (9, .ofNat 0, .ofNat 17), (10, .negSucc 2147483647, .ofNat 2147483647)], [(3, 9, .ofNat 14), (9, 3, .ofNat 0)], [(0, .inl 32), (1, .inr (false, (1, .ofNat 0))), (2, .inr (false, (2, .ofNat 0))), (3, .inr (false, (4, .ofNat 0))), (4, .inr (false, (3, .ofNat 0))), (5, .inr (false, (5, .ofNat 0))), (6, .inr (false, (6, .ofNat 0))), (7, .inr (false, (0, .ofNat 14))), (8, .inr (false, (7, .ofNat 0))), (9, .inr (false, (8, .ofNat 0)))], [], [(32, (0, .ofNat 9), .inl 37), (32, (0, .ofNat 10), .inr (false, (9, .ofNat 0))), (32, (0, .ofNat 11), .inr (false, (10, .ofNat 0)))], [], []), ((0, 0, .ofNat 3), (0, 0, .ofNat 0), (0, 0, .ofNat 0)), 0, 0), 
  (38, (11, [(1, .ofNat 0, .ofNat 16), (2, .ofNat 0, .ofNat 16), (3, .ofNat 15, .ofNat 17), (4, .negSucc 2147483647, .ofNat 2147483647), (5, .ofNat 0, .ofNat 15), (6, .ofNat 0, .ofNat 1), (7, .ofNat 0, .ofNat 16), (8, .negSucc 0, .ofNat 2147480647), (9, .ofNat 0, .ofNat 17), (10, .negSucc 2147483647, .ofNat 2147483647)], [(3, 9, .ofNat 15), (9, 3, .ofNat 0)], [(0, .inl 32), (1, .inr (false, (1, .ofNat 0))), (2, .inr (false, (2, .ofNat 0))), (3, .inr (false, (4, .ofNat 0))), (4, .inr (false, (3, .ofNat 0))), (5, .inr (false, (5, .ofNat 0))), (6, .inr (false, (6, .ofNat 0))), (7, .inr (false, (0, .ofNat 15))), (8, .inr (false, (7, .ofNat 0))), (9, .inr (false, (8, .ofNat 0)))], [], [(32, (0, .ofNat 9), .inl 37), (32, (0, .ofNat 10), .inr (false, (9, .ofNat 0))), (32, (0, .ofNat 11), .inr (false, (10, .ofNat 0)))], [], []), ((0, 0, .ofNat 2), (0, 0, .ofNat 0), (0, 0, .ofNat 0)), 0, 0), 
  (38, (11, [(1, .ofNat 0, .ofNat 16), (2, .ofNat 0, .ofNat 16), (3, .ofNat 16, .ofNat 17), (4, .negSucc 2147483647, .ofNat 2147483647), (5, .ofNat 0, .ofNat 16), (6, .ofNat 0, .ofNat 1), (7, .ofNat 0, .ofNat 16), (8, .negSucc 0, .ofNat 2147480647), (9, .ofNat 0, .ofNat 17), (10, .negSucc 2147483647, .ofNat 2147483647)], [(3, 9, .ofNat 16), (9, 3, .ofNat 0)], [(0, .inl 32), (1, .inr (false, (1, .ofNat 0))), (2, .inr (false, (2, .ofNat 0))), (3, .inr (false, (4, .ofNat 0))), (4, .inr (false, (3, .ofNat 0))), (5, .inr (false, (5, .ofNat 0))), (6, .inr (false, (6, .ofNat 0))), (7, .inr (false, (0, .ofNat 16))), (8, .inr (false, (7, .ofNat 0))), (9, .inr (false, (8, .ofNat 0)))], [], [(32, (0, .ofNat 9), .inl 37), (32, (0, .ofNat 10), .inr (false, (9, .ofNat 0))), (32, (0, .ofNat 11), .inr (false, (10, .ofNat 0)))], [], []), ((0, 0, .ofNat 1), (0, 0, .ofNat 0), (0, 0, .ofNat 0)), 0, 0), 
  (38, (11, [(1, .ofNat 0, .ofNat 16), (2, .ofNat 0, .ofNat 16), (3, .ofNat 17, .ofNat 17), (4, .negSucc 2147483647, .ofNat 2147483647), (5, .ofNat 0, .ofNat 17), (6, .ofNat 0, .ofNat 1), (7, .ofNat 0, .ofNat 16), (8, .negSucc 0, .ofNat 2147480647), (9, .ofNat 0, .ofNat 17), (10, .negSucc 2147483647, .ofNat 2147483647)], [], [(0, .inl 32), (1, .inr (false, (1, .ofNat 0))), (2, .inr (false, (2, .ofNat 0))), (3, .inr (false, (4, .ofNat 0))), (4, .inr (false, (3, .ofNat 0))), (5, .inr (false, (5, .ofNat 0))), (6, .inr (false, (6, .ofNat 0))), (7, .inr (false, (0, .ofNat 17))), (8, .inr (false, (7, .ofNat 0))), (9, .inr (false, (8, .ofNat 0)))], [], [(32, (0, .ofNat 9), .inl 37), (32, (0, .ofNat 10), .inr (false, (9, .ofNat 0))), (32, (0, .ofNat 11), .inr (false, (10, .ofNat 0)))], [], []), ((0, 0, .ofNat 0), (0, 0, .ofNat 0), (0, 0, .ofNat 0)), 0, 0), 
  (38, (11, [(1, .ofNat 0, .ofNat 16), (2, .ofNat 0, .ofNat 16), (3, .ofNat 2, .ofNat 17), (4, .negSucc 2147483647, .ofNat 2147483647), (5, .ofNat 0, .ofNat 2), (6, .ofNat 0, .ofNat 1), (7, .ofNat 0, .ofNat 16), (8, .negSucc 0, .ofNat 2147480647), (9, .ofNat 0, .ofNat 17), (10, .negSucc 2147483647, .ofNat 2147483647)], [(3, 9, .ofNat 2), (9, 3, .ofNat 0)], [(0, .inl 32), (1, .inr (false, (1, .ofNat 0))), (2, .inr (false, (2, .ofNat 0))), (3, .inr (false, (4, .ofNat 0))), (4, .inr (false, (3, .ofNat 0))), (5, .inr (false, (5, .ofNat 0))), (6, .inr (false, (6, .ofNat 0))), (7, .inr (false, (0, .ofNat 2))), (8, .inr (false, (7, .ofNat 0))), (9, .inr (false, (8, .ofNat 0)))], [], [(32, (0, .ofNat 9), .inl 37), (32, (0, .ofNat 10), .inr (false, (9, .ofNat 0))), (32, (0, .ofNat 11), .inr (false, (10, .ofNat 0)))], [], []), ((0, 0, .ofNat 15), (0, 0, .ofNat 0), (0, 0, .ofNat 0)), 0, 0), 
  (38, (11, [(1, .ofNat 0, .ofNat 16), (2, .ofNat 0, .ofNat 16), (3, .ofNat 3, .ofNat 17), (4, .negSucc 2147483647, .ofNat 2147483647), (5, .ofNat 0, .ofNat 3), (6, .ofNat 0, .ofNat 1), (7, .ofNat 0, .ofNat 16), (8, .negSucc 0, .ofNat 2147480647), (9, .ofNat 0, .ofNat 17), (10, .negSucc 2147483647, .ofNat 2147483647)], [(3, 9, .ofNat 3), (9, 3, .ofNat 0)], [(0, .inl 32), (1, .inr (false, (1, .ofNat 0))), (2, .inr (false, (2, .ofNat 0))), (3, .inr (false, (4, .ofNat 0))), (4, .inr (false, (3, .ofNat 0))), (5, .inr (false, (5, .ofNat 0))), (6, .inr (false, (6, .ofNat 0))), (7, .inr (false, (0, .ofNat 3))), (8, .inr (false, (7, .ofNat 0))), (9, .inr (false, (8, .ofNat 0)))], [], [(32, (0, .ofNat 9), .inl 37), (32, (0, .ofNat 10), .inr (false, (9, .ofNat 0))), (32, (0, .ofNat 11), .inr (false, (10, .ofNat 0)))], [], []), ((0, 0, .ofNat 14), (0, 0, .ofNat 0), (0, 0, .ofNat 0)), 0, 0), 
  (38, (11, [(1, .ofNat 0, .ofNat 16), (2, .ofNat 0, .ofNat 16), (3, .ofNat 4, .ofNat 17), (4, .negSucc 2147483647, .ofNat 2147483647), (5, .ofNat 0, .ofNat 4), (6, .ofNat 0, .ofNat 1), (7, .ofNat 0, .ofNat 16), (8, .negSucc 0, .ofNat 2147480647), (9, .ofNat 0, .ofNat 17), (10, .negSucc 2147483647, .ofNat 2147483647)], [(3, 9, .ofNat 4), (9, 3, .ofNat 0)], [(0, .inl 32), (1, .inr (false, (1, .ofNat 0))), (2, .inr (false, (2, .ofNat 0))), (3, .inr (false, (4, .ofNat 0))), (4, .inr (false, (3, .ofNat 0))), (5, .inr (false, (5, .ofNat 0))), (6, .inr (false, (6, .ofNat 0))), (7, .inr (false, (0, .ofNat 4))), (8, .inr (false, (7, .ofNat 0))), (9, .inr (false, (8, .ofNat 0)))], [], [(32, (0, .ofNat 9), .inl 37), (32, (0, .ofNat 10), .inr (false, (9, .ofNat 0))), (32, (0, .ofNat 11), .inr (false, (10, .ofNat 0)))], [], []), ((0, 0, .ofNat 13), (0, 0, .ofNat 0), (0, 0, .ofNat 0)), 0, 0), 
  (38, (11, [(1, .ofNat 0, .ofNat 16), (2, .ofNat 0, .ofNat 16), (3, .ofNat 5, .ofNat 17), (4, .negSucc 2147483647, .ofNat 2147483647), (5, .ofNat 0, .ofNat 5), (6, .ofNat 0, .ofNat 1), (7, .ofNat 0, .ofNat 16), (8, .negSucc 0, .ofNat 2147480647), (9, .ofNat 0, .ofNat 17), (10, .negSucc 2147483647, .ofNat 2147483647)], [(3, 9, .ofNat 5), (9, 3, .ofNat 0)], [(0, .inl 32), (1, .inr (false, (1, .ofNat 0))), (2, .inr (false, (2, .ofNat 0))), (3, .inr (false, (4, .ofNat 0))), (4, .inr (false, (3, .ofNat 0))), (5, .inr (false, (5, .ofNat 0))), (6, .inr (false, (6, .ofNat 0))), (7, .inr (false, (0, .ofNat 5))), (8, .inr (false, (7, .ofNat 0))), (9, .inr (false, (8, .ofNat 0)))], [], [(32, (0, .ofNat 9), .inl 37), (32, (0, .ofNat 10), .inr (false, (9, .ofNat 0))), (32, (0, .ofNat 11), .inr (false, (10, .ofNat 0)))], [], []), ((0, 0, .ofNat 12), (0, 0, .ofNat 0), (0, 0, .ofNat 0)), 0, 0), 
  (38, (11, [(1, .ofNat 0, .ofNat 16), (2, .ofNat 0, .ofNat 16), (3, .ofNat 6, .ofNat 17), (4, .negSucc 2147483647, .ofNat 2147483647), (5, .ofNat 0, .ofNat 6), (6, .ofNat 0, .ofNat 1), (7, .ofNat 0, .ofNat 16), (8, .negSucc 0, .ofNat 2147480647), (9, .ofNat 0, .ofNat 17), (10, .negSucc 2147483647, .ofNat 2147483647)], [(3, 9, .ofNat 6), (9, 3, .ofNat 0)], [(0, .inl 32), (1, .inr (false, (1, .ofNat 0))), (2, .inr (false, (2, .ofNat 0))), (3, .inr (false, (4, .ofNat 0))), (4, .inr (false, (3, .ofNat 0))), (5, .inr (false, (5, .ofNat 0))), (6, .inr (false, (6, .ofNat 0))), (7, .inr (false, (0, .ofNat 6))), (8, .inr (false, (7, .ofNat 0))), (9, .inr (false, (8, .ofNat 0)))], [], [(32, (0, .ofNat 9), .inl 37), (32, (0, .ofNat 10), .inr (false, (9, .ofNat 0))), (32, (0, .ofNat 11), .inr (false, (10, .ofNat 0)))], [], []), ((0, 0, .ofNat 11), (0, 0, .ofNat 0), (0, 0, .ofNat 0)), 0, 0), 
  (38, (11, [(1, .ofNat 0, .ofNat 16), (2, .ofNat 0, .ofNat 16), (3, .ofNat 7, .ofNat 17), (4, .negSucc 2147483647, .ofNat 2147483647), (5, .ofNat 0, .ofNat 7), (6, .ofNat 0, .ofNat 1), (7, .ofNat 0, .ofNat 16), (8, .negSucc 0, .ofNat 2147480647), (9, .ofNat 0, .ofNat 17), (10, .negSucc 2147483647, .ofNat 2147483647)], [(3, 9, .ofNat 7), (9, 3, .ofNat 0)], [(0, .inl 32), (1, .inr (false, (1, .ofNat 0))), (2, .inr (false, (2, .ofNat 0))), (3, .inr (false, (4, .ofNat 0))), (4, .inr (false, (3, .ofNat 0))), (5, .inr (false, (5, .ofNat 0))), (6, .inr (false, (6, .ofNat 0))), (7, .inr (false, (0, .ofNat 7))), (8, .inr (false, (7, .ofNat 0))), (9, .inr (false, (8, .ofNat 0)))], [], [(32, (0, .ofNat 9), .inl 37), (32, (0, .ofNat 10), .inr (false, (9, .ofNat 0))), (32, (0, .ofNat 11), .inr (false, (10, .ofNat 0)))], [], []), ((0, 0, .ofNat 10), (0, 0, .ofNat 0), (0, 0, .ofNat 0)), 0, 0), 
  (38, (11, [(1, .ofNat 0, .ofNat 16), (2, .ofNat 0, .ofNat 16), (3, .ofNat 8, .ofNat 17), (4, .negSucc 2147483647, .ofNat 2147483647), (5, .ofNat 0, .ofNat 8), (6, .ofNat 0, .ofNat 1), (7, .ofNat 0, .ofNat 16), (8, .negSucc 0, .ofNat 2147480647), (9, .ofNat 0, .ofNat 17), (10, .negSucc 2147483647, .ofNat 2147483647)], [(3, 9, .ofNat 8), (9, 3, .ofNat 0)], [(0, .inl 32), (1, .inr (false, (1, .ofNat 0))), (2, .inr (false, (2, .ofNat 0))), (3, .inr (false, (4, .ofNat 0))), (4, .inr (false, (3, .ofNat 0))), (5, .inr (false, (5, .ofNat 0))), (6, .inr (false, (6, .ofNat 0))), (7, .inr (false, (0, .ofNat 8))), (8, .inr (false, (7, .ofNat 0))), (9, .inr (false, (8, .ofNat 0)))], [], [(32, (0, .ofNat 9), .inl 37), (32, (0, .ofNat 10), .inr (false, (9, .ofNat 0))), (32, (0, .ofNat 11), .inr (false, (10, .ofNat 0)))], [], []), ((0, 0, .ofNat 9), (0, 0, .ofNat 0), (0, 0, .ofNat 0)), 0, 0), 
  (38, (11, [(1, .ofNat 0, .ofNat 16), (2, .ofNat 0, .ofNat 16), (3, .ofNat 9, .ofNat 17), (4, .negSucc 2147483647, .ofNat 2147483647), (5, .ofNat 0, .ofNat 9), (6, .ofNat 0, .ofNat 1), (7, .ofNat 0, .ofNat 16), (8, .negSucc 0, .ofNat 2147480647), (9, .ofNat 0, .ofNat 17), (10, .negSucc 2147483647, .ofNat 2147483647)], [(3, 9, .ofNat 9), (9, 3, .ofNat 0)], [(0, .inl 32), (1, .inr (false, (1, .ofNat 0))), (2, .inr (false, (2, .ofNat 0))), (3, .inr (false, (4, .ofNat 0))), (4, .inr (false, (3, .ofNat 0))), (5, .inr (false, (5, .ofNat 0))), (6, .inr (false, (6, .ofNat 0))), (7, .inr (false, (0, .ofNat 9))), (8, .inr (false, (7, .ofNat 0))), (9, .inr (false, (8, .ofNat 0)))], [], [(32, (0, .ofNat 9), .inl 37), (32, (0, .ofNat 10), .inr (false, (9, .ofNat 0))), (32, (0, .ofNat 11), .inr (false, (10, .ofNat 0)))], [], []), ((0, 0, .ofNat 8), (0, 0, .ofNat 0), (0, 0, .ofNat 0)), 0, 0)]
set_option maxRecDepth 1000000 in
theorem cv1272 {gh : sxGh} (hg : sxGd sxKw gh) : sxCtV sxKw gh ct1272 := sxMeB_ok (cts := [ct1271]) (cuts := cu1272) (sp := []) 3965 sorry hg (by decide) (by decide) (List.forall_mem_cons.mpr ⟨cv1271 hg, (fun _ h => absurd h List.not_mem_nil)⟩)
/-- LotBeliefs.Course.play -/
def ct1273 : sxCt := (2, 4, (3, [(1, .ofNat 0, .ofNat 17), (2, .ofNat 0, .ofNat 1)], [], [(0, .inl 32), (1, .inl 31), (2, .inr (false, (1, .ofNat 0))), (3, .inr (false, (2, .ofNat 0)))], [], [], [], []), [(21, 0), (22, 0), (25, 0), (26, 0), (32, 9), (32, 11), (32, 12), (33000037, 0)], [
  (5, [(3, .ofNat 0, .ofNat 4095), (4, .negSucc 2147483647, .ofNat 2147483647)], [], [], [], [(32, (0, .ofNat 8), .inr (false, (3, .ofNat 0))), (32, (0, .ofNat 11), .inr (false, (4, .ofNat 0)))], [], [])], [], 0, 0)
def cu1273 : List sxCu := [
  (9, (4, [(1, .ofNat 0, .ofNat 17), (2, .ofNat 0, .ofNat 1), (3, .ofNat 0, .ofNat 17)], [(2, 3, .ofNat 0), (3, 1, .ofNat 1)], [(0, .inl 32), (1, .inl 31), (2, .inr (false, (1, .ofNat 0))), (3, .inr (false, (2, .ofNat 0))), (4, .inr (false, (3, .ofNat 0)))], [], [], [], []), ((0, 3, .ofNat 17), (0, 0, .ofNat 0), (0, 0, .ofNat 0)), 0, 0)]
set_option maxRecDepth 1000000 in
theorem cv1273 {gh : sxGh} (hg : sxGd sxKw gh) : sxCtV sxKw gh ct1273 := sxMeB_ok (cts := [ct626, ct392, ct1261, ct412, ct1262, ct1272]) (cuts := cu1273) (sp := []) 134 sorry hg (by decide) (by decide) (List.forall_mem_cons.mpr ⟨cv626 hg, (List.forall_mem_cons.mpr ⟨cv392 hg, (List.forall_mem_cons.mpr ⟨cv1261 hg, (List.forall_mem_cons.mpr ⟨cv412 hg, (List.forall_mem_cons.mpr ⟨cv1262 hg, (List.forall_mem_cons.mpr ⟨cv1272 hg, (fun _ h => absurd h List.not_mem_nil)⟩)⟩)⟩)⟩)⟩)⟩)
/-- LotBeliefs.laySalts -/
def ct1287 : sxCt := (188, 1, (2, [(1, .ofNat 0, .ofNat 39)], [], [(0, .inl 0), (1, .inr (false, (1, .ofNat 0)))], [], [], [], []), [(31, 0)], [
  (3, [(2, .ofNat 0, .ofNat 17)], [], [], [.inr (false, (2, .ofNat 0))], [], [], [])], [], 0, 0)
def cu1287 : List sxCu := [
  (4, (4, [(1, .ofNat 0, .ofNat 39), (2, .ofNat 0, .ofNat 5), (3, .ofNat 0, .ofNat 5)], [(2, 3, .ofNat 0)], [(0, .inl 0), (1, .inr (false, (1, .ofNat 0))), (2, .inr (false, (2, .ofNat 0))), (3, .inr (false, (3, .ofNat 0)))], [], [], [], []), ((0, 3, .ofNat 5), (0, 0, .ofNat 0), (0, 0, .ofNat 0)), 0, 0)]
set_option maxRecDepth 1000000 in
theorem cv1287 {gh : sxGh} (hg : sxGd sxKw gh) : sxCtV sxKw gh ct1287 := sxMeB_ok (cts := [ct1235]) (cuts := cu1287) (sp := []) 127 sorry hg (by decide) (by decide) (List.forall_mem_cons.mpr ⟨cv1235 hg, (fun _ h => absurd h List.not_mem_nil)⟩)
/-- LotBeliefs.salted -/
def ct1288 : sxCt := (143, 6, (2, [(1, .negSucc 2147483647, .ofNat 2147483647)], [], [(0, .inl 0), (1, .inr (false, (1, .ofNat 0)))], [], [], [], []), [(21, 0), (22, 0), (25, 0), (26, 0), (30, 0), (31, 0), (32, 1), (32, 2), (32, 3), (32, 4), (32, 9), (32, 11), (32, 12), (33000037, 0)], [
  (3, [(1, .ofNat 0, .ofNat 4095), (2, .negSucc 0, .ofNat 37)], [], [], [.inr (false, (2, .ofNat 0))], [], [], [])], [
  (1, (3, [(2, .negSucc 2147483647, .ofNat 2147483647)], [], [], [], [(30, (0, .ofNat 1), .inr (false, (2, .ofNat 0)))], [], []))], 1, 6)
def cu1288 : List sxCu := [
  (20, (5, [(1, .ofNat 0, .ofNat 4095), (2, .negSucc 0, .ofNat 37), (3, .ofNat 0, .ofNat 6), (4, .ofNat 0, .ofNat 38)], [(2, 4, .negSucc 0)], [(0, .inl 0), (1, .inr (false, (1, .ofNat 0))), (2, .inr (false, (2, .ofNat 0))), (3, .inr (false, (3, .ofNat 0))), (4, .inr (false, (4, .ofNat 0)))], [], [], [], []), ((0, 4, .ofNat 38), (0, 0, .ofNat 0), (0, 0, .ofNat 0)), 0, 0)]
set_option maxRecDepth 1000000 in
theorem cv1288 {gh : sxGh} (hg : sxGd sxKw gh) : sxCtV sxKw gh ct1288 := sxMeB_ok (cts := [ct1273, ct1287, ct1041]) (cuts := cu1288) (sp := []) 380 sorry hg (by decide) (by decide) (List.forall_mem_cons.mpr ⟨cv1273 hg, (List.forall_mem_cons.mpr ⟨cv1287 hg, (List.forall_mem_cons.mpr ⟨cv1041 hg, (fun _ h => absurd h List.not_mem_nil)⟩)⟩)⟩)
/-- LotBeliefs.Survey.heldInAll -/
def ct1308 : sxCt := (77, 1, (2, [(1, .ofNat 0, .ofNat 4095)], [], [(0, .inl 74), (1, .inr (false, (1, .ofNat 0)))], [], [], [], []), [], [
  (3, [(2, .negSucc 2147483647, .ofNat 2147483647)], [], [], [.inr (false, (2, .ofNat 0))], [], [], [])], [], 0, 0)
def cu1308 : List sxCu := [
  (4, (4, [(1, .ofNat 0, .ofNat 4095), (2, .negSucc 2147483647, .ofNat 2147483647), (3, .ofNat 0, .ofNat 128)], [], [(0, .inl 74), (1, .inr (false, (1, .ofNat 0))), (2, .inr (false, (2, .ofNat 0))), (3, .inr (false, (3, .ofNat 0)))], [], [], [], []), ((0, 3, .ofNat 128), (0, 0, .ofNat 0), (0, 0, .ofNat 0)), 0, 0)]
set_option maxRecDepth 1000000 in
theorem cv1308 {gh : sxGh} (hg : sxGd sxKw gh) : sxCtV sxKw gh ct1308 := sxMeB_ok (cts := [ct1053]) (cuts := cu1308) (sp := []) 86 sorry hg (by decide) (by decide) (List.forall_mem_cons.mpr ⟨cv1053 hg, (fun _ h => absurd h List.not_mem_nil)⟩)
/-- LotBeliefs.Survey.heldInAll -/
def ct1309 : sxCt := (77, 1, (2, [(1, .ofNat 0, .ofNat 4095)], [], [(0, .inl 70), (1, .inr (false, (1, .ofNat 0)))], [], [], [], []), [], [
  (3, [(2, .negSucc 2147483647, .ofNat 2147483647)], [], [], [.inr (false, (2, .ofNat 0))], [], [], [])], [], 0, 0)
def cu1309 : List sxCu := [
  (4, (4, [(1, .ofNat 0, .ofNat 4095), (2, .negSucc 2147483647, .ofNat 2147483647), (3, .ofNat 0, .ofNat 128)], [], [(0, .inl 70), (1, .inr (false, (1, .ofNat 0))), (2, .inr (false, (2, .ofNat 0))), (3, .inr (false, (3, .ofNat 0)))], [], [], [], []), ((0, 3, .ofNat 128), (0, 0, .ofNat 0), (0, 0, .ofNat 0)), 0, 0)]
set_option maxRecDepth 1000000 in
theorem cv1309 {gh : sxGh} (hg : sxGd sxKw gh) : sxCtV sxKw gh ct1309 := sxMeB_ok (cts := [ct1053]) (cuts := cu1309) (sp := []) 86 sorry hg (by decide) (by decide) (List.forall_mem_cons.mpr ⟨cv1053 hg, (fun _ h => absurd h List.not_mem_nil)⟩)
/-- LotBeliefsModel.begins -/
def ct1310 : sxCt := (260, 0, (2, [(1, .ofNat 0, .ofNat 3)], [], [(0, .inl 78), (1, .inr (false, (1, .ofNat 0)))], [], [], [], []), [(78, 45), (78, 46), (78, 47), (78, 48), (78, 49), (562000566, 0)], [
  (2, [], [], [], [], [(78, (0, .ofNat 44), .inr (false, (0, .ofNat 0))), (78, (0, .ofNat 45), .inr (false, (0, .ofNat 0))), (78, (0, .ofNat 46), .inr (false, (0, .ofNat 0))), (78, (0, .ofNat 47), .inr (false, (0, .ofNat 0))), (78, (0, .ofNat 48), .inr (false, (1, .ofNat 0)))], [], [])], [], 0, 0)
def cu1310 : List sxCu := [
  (27, (3, [(1, .ofNat 0, .ofNat 3), (2, .ofNat 0, .ofNat 17)], [], [(0, .inl 78), (1, .inr (false, (1, .ofNat 0))), (2, .inr (false, (2, .ofNat 0)))], [], [(78, (0, .ofNat 44), .inr (false, (0, .ofNat 0))), (78, (0, .ofNat 45), .inr (false, (0, .ofNat 0))), (78, (0, .ofNat 46), .inr (false, (0, .ofNat 0))), (78, (0, .ofNat 47), .inr (false, (0, .ofNat 0))), (78, (0, .ofNat 48), .inr (false, (1, .ofNat 0)))], [], []), ((0, 2, .ofNat 17), (0, 0, .ofNat 0), (0, 0, .ofNat 0)), 0, 0)]
set_option maxRecDepth 1000000 in
theorem cv1310 {gh : sxGh} (hg : sxGd sxKw gh) : sxCtV sxKw gh ct1310 := sxMeB_ok (cts := []) (cuts := cu1310) (sp := []) 108 sorry hg (by decide) (by decide) (fun _ h => absurd h List.not_mem_nil)
/-- LotBeliefs.Survey.heldInAll -/
def ct1364 : sxCt := (77, 1, (2, [(1, .ofNat 0, .ofNat 4095)], [], [(0, .inl 66), (1, .inr (false, (1, .ofNat 0)))], [], [], [], []), [], [
  (3, [(2, .negSucc 2147483647, .ofNat 2147483647)], [], [], [.inr (false, (2, .ofNat 0))], [], [], [])], [], 0, 0)
def cu1364 : List sxCu := [
  (4, (4, [(1, .ofNat 0, .ofNat 4095), (2, .negSucc 2147483647, .ofNat 2147483647), (3, .ofNat 0, .ofNat 128)], [], [(0, .inl 66), (1, .inr (false, (1, .ofNat 0))), (2, .inr (false, (2, .ofNat 0))), (3, .inr (false, (3, .ofNat 0)))], [], [], [], []), ((0, 3, .ofNat 128), (0, 0, .ofNat 0), (0, 0, .ofNat 0)), 0, 0)]
set_option maxRecDepth 1000000 in
theorem cv1364 {gh : sxGh} (hg : sxGd sxKw gh) : sxCtV sxKw gh ct1364 := sxMeB_ok (cts := [ct1053]) (cuts := cu1364) (sp := []) 86 sorry hg (by decide) (by decide) (List.forall_mem_cons.mpr ⟨cv1053 hg, (fun _ h => absurd h List.not_mem_nil)⟩)
/-- LotBeliefsModel.begins -/
def ct1365 : sxCt := (260, 0, (2, [(1, .ofNat 0, .ofNat 2)], [], [(0, .inl 78), (1, .inr (false, (1, .ofNat 0)))], [], [], [], []), [(78, 45), (78, 46), (78, 47), (78, 48), (78, 49), (562000566, 0)], [
  (2, [], [], [], [], [(78, (0, .ofNat 44), .inr (false, (0, .ofNat 0))), (78, (0, .ofNat 45), .inr (false, (0, .ofNat 0))), (78, (0, .ofNat 46), .inr (false, (0, .ofNat 0))), (78, (0, .ofNat 47), .inr (false, (0, .ofNat 0))), (78, (0, .ofNat 48), .inr (false, (1, .ofNat 0)))], [], [])], [], 0, 0)
def cu1365 : List sxCu := [
  (27, (3, [(1, .ofNat 0, .ofNat 2), (2, .ofNat 0, .ofNat 17)], [], [(0, .inl 78), (1, .inr (false, (1, .ofNat 0))), (2, .inr (false, (2, .ofNat 0)))], [], [(78, (0, .ofNat 44), .inr (false, (0, .ofNat 0))), (78, (0, .ofNat 45), .inr (false, (0, .ofNat 0))), (78, (0, .ofNat 46), .inr (false, (0, .ofNat 0))), (78, (0, .ofNat 47), .inr (false, (0, .ofNat 0))), (78, (0, .ofNat 48), .inr (false, (1, .ofNat 0)))], [], []), ((0, 2, .ofNat 17), (0, 0, .ofNat 0), (0, 0, .ofNat 0)), 0, 0)]
set_option maxRecDepth 1000000 in
theorem cv1365 {gh : sxGh} (hg : sxGd sxKw gh) : sxCtV sxKw gh ct1365 := sxMeB_ok (cts := []) (cuts := cu1365) (sp := []) 108 sorry hg (by decide) (by decide) (fun _ h => absurd h List.not_mem_nil)
/-- LotBeliefs.Survey.heldInAll -/
def ct1419 : sxCt := (77, 1, (2, [(1, .ofNat 0, .ofNat 4095)], [], [(0, .inl 62), (1, .inr (false, (1, .ofNat 0)))], [], [], [], []), [], [
  (3, [(2, .negSucc 2147483647, .ofNat 2147483647)], [], [], [.inr (false, (2, .ofNat 0))], [], [], [])], [], 0, 0)
def cu1419 : List sxCu := [
  (4, (4, [(1, .ofNat 0, .ofNat 4095), (2, .negSucc 2147483647, .ofNat 2147483647), (3, .ofNat 0, .ofNat 128)], [], [(0, .inl 62), (1, .inr (false, (1, .ofNat 0))), (2, .inr (false, (2, .ofNat 0))), (3, .inr (false, (3, .ofNat 0)))], [], [], [], []), ((0, 3, .ofNat 128), (0, 0, .ofNat 0), (0, 0, .ofNat 0)), 0, 0)]
set_option maxRecDepth 1000000 in
theorem cv1419 {gh : sxGh} (hg : sxGd sxKw gh) : sxCtV sxKw gh ct1419 := sxMeB_ok (cts := [ct1053]) (cuts := cu1419) (sp := []) 86 sorry hg (by decide) (by decide) (List.forall_mem_cons.mpr ⟨cv1053 hg, (fun _ h => absurd h List.not_mem_nil)⟩)
/-- LotBeliefsModel.begins -/
def ct1420 : sxCt := (260, 0, (2, [(1, .ofNat 0, .ofNat 1)], [], [(0, .inl 78), (1, .inr (false, (1, .ofNat 0)))], [], [], [], []), [(78, 45), (78, 46), (78, 47), (78, 48), (78, 49), (562000566, 0)], [
  (2, [], [], [], [], [(78, (0, .ofNat 44), .inr (false, (0, .ofNat 0))), (78, (0, .ofNat 45), .inr (false, (0, .ofNat 0))), (78, (0, .ofNat 46), .inr (false, (0, .ofNat 0))), (78, (0, .ofNat 47), .inr (false, (0, .ofNat 0))), (78, (0, .ofNat 48), .inr (false, (1, .ofNat 0)))], [], [])], [], 0, 0)
def cu1420 : List sxCu := [
  (27, (3, [(1, .ofNat 0, .ofNat 1), (2, .ofNat 0, .ofNat 17)], [], [(0, .inl 78), (1, .inr (false, (1, .ofNat 0))), (2, .inr (false, (2, .ofNat 0)))], [], [(78, (0, .ofNat 44), .inr (false, (0, .ofNat 0))), (78, (0, .ofNat 45), .inr (false, (0, .ofNat 0))), (78, (0, .ofNat 46), .inr (false, (0, .ofNat 0))), (78, (0, .ofNat 47), .inr (false, (0, .ofNat 0))), (78, (0, .ofNat 48), .inr (false, (1, .ofNat 0)))], [], []), ((0, 2, .ofNat 17), (0, 0, .ofNat 0), (0, 0, .ofNat 0)), 0, 0)]
set_option maxRecDepth 1000000 in
theorem cv1420 {gh : sxGh} (hg : sxGd sxKw gh) : sxCtV sxKw gh ct1420 := sxMeB_ok (cts := []) (cuts := cu1420) (sp := []) 108 sorry hg (by decide) (by decide) (fun _ h => absurd h List.not_mem_nil)
/-- LotBeliefs.Survey.heldInAll -/
def ct1474 : sxCt := (77, 1, (2, [(1, .ofNat 0, .ofNat 4095)], [], [(0, .inl 58), (1, .inr (false, (1, .ofNat 0)))], [], [], [], []), [], [
  (3, [(2, .negSucc 2147483647, .ofNat 2147483647)], [], [], [.inr (false, (2, .ofNat 0))], [], [], [])], [], 0, 0)
def cu1474 : List sxCu := [
  (4, (4, [(1, .ofNat 0, .ofNat 4095), (2, .negSucc 2147483647, .ofNat 2147483647), (3, .ofNat 0, .ofNat 128)], [], [(0, .inl 58), (1, .inr (false, (1, .ofNat 0))), (2, .inr (false, (2, .ofNat 0))), (3, .inr (false, (3, .ofNat 0)))], [], [], [], []), ((0, 3, .ofNat 128), (0, 0, .ofNat 0), (0, 0, .ofNat 0)), 0, 0)]
set_option maxRecDepth 1000000 in
theorem cv1474 {gh : sxGh} (hg : sxGd sxKw gh) : sxCtV sxKw gh ct1474 := sxMeB_ok (cts := [ct1053]) (cuts := cu1474) (sp := []) 86 sorry hg (by decide) (by decide) (List.forall_mem_cons.mpr ⟨cv1053 hg, (fun _ h => absurd h List.not_mem_nil)⟩)
/-- LotBeliefs.drawRow -/
def ct1475 : sxCt := (185, 1, (2, [(1, .negSucc 2147483647, .ofNat 2147483647)], [], [(0, .inl 0), (1, .inr (false, (1, .ofNat 0)))], [], [], [], []), [(31, 0)], [
  (2, [], [], [], [], [], [], [])], [], 0, 0)
def cu1475 : List sxCu := [
  (2, (3, [(1, .negSucc 2147483647, .ofNat 2147483647), (2, .ofNat 0, .ofNat 12)], [], [(0, .inl 0), (1, .inr (false, (1, .ofNat 0))), (2, .inr (false, (2, .ofNat 0)))], [], [], [], []), ((0, 2, .ofNat 25), (0, 0, .ofNat 0), (0, 0, .ofNat 0)), 0, 0), 
  (38, (4, [(1, .negSucc 2147483647, .ofNat 2147483647), (2, .negSucc 2147483647, .ofNat 2147483647), (3, .negSucc 0, .ofNat 11)], [], [(0, .inl 0), (1, .inr (false, (1, .ofNat 0))), (2, .inr (false, (2, .ofNat 0))), (3, .inr (false, (3, .ofNat 0)))], [], [], [], []), ((3, 0, .ofNat 1), (0, 0, .ofNat 0), (0, 0, .ofNat 0)), 0, 0)]
set_option maxRecDepth 1000000 in
theorem cv1475 {gh : sxGh} (hg : sxGd sxKw gh) : sxCtV sxKw gh ct1475 := sxMeB_ok (cts := []) (cuts := cu1475) (sp := []) 142 sorry hg (by decide) (by decide) (fun _ h => absurd h List.not_mem_nil)
/-- LotBeliefs.drawn -/
def ct1476 : sxCt := (146, 6, (4, [(1, .negSucc 2147483647, .ofNat 2147483647), (2, .negSucc 2147483647, .ofNat 2147483647), (3, .negSucc 2147483647, .ofNat 2147483647)], [], [(0, .inl 0), (1, .inr (false, (1, .ofNat 0))), (2, .inr (false, (2, .ofNat 0))), (3, .inr (false, (3, .ofNat 0)))], [], [], [], []), [(21, 0), (22, 0), (25, 0), (26, 0), (30, 0), (31, 0), (32, 1), (32, 2), (32, 3), (32, 4), (32, 9), (32, 11), (32, 12), (33000037, 0)], [
  (5, [(1, .ofNat 0, .ofNat 4), (3, .ofNat 1, .ofNat 60), (4, .negSucc 2147483647, .ofNat 2147483647)], [], [], [.inr (false, (4, .ofNat 0))], [], [], [])], [
  (1, (5, [(4, .negSucc 2147483647, .ofNat 2147483647)], [], [], [], [(30, (0, .ofNat 1), .inr (false, (4, .ofNat 0)))], [], []))], 1, 6)
def cu1476 : List sxCu := [
  (33, (8, [(1, .ofNat 0, .ofNat 4), (2, .negSucc 2147483647, .ofNat 2147483647), (3, .ofNat 1, .ofNat 60), (4, .ofNat 0, .ofNat 4095), (5, .negSucc 2147483647, .ofNat 2147483647), (6, .ofNat 0, .ofNat 63), (7, .ofNat 0, .ofNat 63)], [], [(0, .inl 0), (1, .inr (false, (1, .ofNat 0))), (2, .inr (false, (2, .ofNat 0))), (3, .inr (false, (3, .ofNat 0))), (4, .inr (false, (4, .ofNat 0))), (5, .inr (false, (5, .ofNat 0))), (6, .inr (false, (6, .ofNat 0)))], [], [(0, (0, .ofNat 7), .inl 27), (27, (0, .ofNat 2), .inr (false, (7, .ofNat 0)))], [], []), ((0, 6, .ofNat 63), (0, 0, .ofNat 0), (0, 0, .ofNat 0)), 0, 0)]
set_option maxRecDepth 1000000 in
theorem cv1476 {gh : sxGh} (hg : sxGd sxKw gh) : sxCtV sxKw gh ct1476 := sxMeB_ok (cts := [ct627, ct384, ct386, ct1475, ct616]) (cuts := cu1476) (sp := []) 330 sorry hg (by decide) (by decide) (List.forall_mem_cons.mpr ⟨cv627 hg, (List.forall_mem_cons.mpr ⟨cv384 hg, (List.forall_mem_cons.mpr ⟨cv386 hg, (List.forall_mem_cons.mpr ⟨cv1475 hg, (List.forall_mem_cons.mpr ⟨cv616 hg, (fun _ h => absurd h List.not_mem_nil)⟩)⟩)⟩)⟩)⟩)
/-- LotBeliefsModel.rowBy -/
def ct1477 : sxCt := (291, 0, (2, [(1, .negSucc 2147483647, .ofNat 2147483647)], [], [(0, .inl 78), (1, .inr (false, (1, .ofNat 0)))], [], [], [], []), [(78, 44), (560, 0)], [
  (3, [(2, .ofNat 0, .ofNat 12)], [], [], [], [(78, (0, .ofNat 43), .inr (false, (2, .ofNat 0)))], [], [])], [], 0, 0)
def cu1477 : List sxCu := [
  (14, (4, [(1, .negSucc 2147483647, .ofNat 2147483647), (2, .ofNat 0, .ofNat 12), (3, .ofNat 0, .ofNat 12)], [], [(0, .inl 78), (1, .inr (false, (1, .ofNat 0))), (2, .inr (false, (1, .ofNat 0))), (3, .inr (false, (2, .ofNat 0)))], [], [(78, (0, .ofNat 12), .inl 82), (78, (0, .ofNat 43), .inr (false, (3, .ofNat 0))), (82, (0, .ofNat 1), .inr (false, (3, .ofNat 0)))], [], []), ((0, 2, .ofNat 25), (0, 0, .ofNat 0), (0, 0, .ofNat 0)), 0, 0), 
  (42, (5, [(1, .negSucc 2147483647, .ofNat 2147483647), (2, .negSucc 2147483647, .ofNat 2147483647), (3, .negSucc 0, .ofNat 11), (4, .ofNat 0, .ofNat 12)], [(3, 4, .negSucc 0)], [(0, .inl 78), (1, .inr (false, (1, .ofNat 0))), (2, .inr (false, (2, .ofNat 0))), (3, .inr (false, (3, .ofNat 0)))], [], [(78, (0, .ofNat 12), .inl 82), (78, (0, .ofNat 43), .inr (false, (4, .ofNat 0))), (82, (0, .ofNat 1), .inr (false, (4, .ofNat 0)))], [], []), ((3, 0, .ofNat 1), (0, 0, .ofNat 0), (0, 0, .ofNat 0)), 0, 0)]
set_option maxRecDepth 1000000 in
theorem cv1477 {gh : sxGh} (hg : sxGd sxKw gh) : sxCtV sxKw gh ct1477 := sxMeB_ok (cts := []) (cuts := cu1477) (sp := []) 125 sorry hg (by decide) (by decide) (fun _ h => absurd h List.not_mem_nil)
/-- LotBeliefs.runSchool -/
def ct1490 : sxCt := (189, 5, (2, [(1, .ofNat 0, .ofNat 1)], [], [(0, .inl 0), (1, .inl 32), (2, .inr (false, (1, .ofNat 0)))], [], [], [], []), [(21, 0), (22, 0), (25, 0), (26, 0), (31, 0), (32, 1), (32, 2), (32, 3), (32, 4), (32, 9), (32, 11), (32, 12), (33000037, 0)], [
  (6, [(2, .ofNat 0, .ofNat 4), (3, .ofNat 0, .ofNat 63), (4, .ofNat 0, .ofNat 4095), (5, .negSucc 2147483647, .ofNat 2147483647)], [], [], [], [(32, (0, .ofNat 2), .inr (false, (2, .ofNat 0))), (32, (0, .ofNat 3), .inr (false, (3, .ofNat 0))), (32, (0, .ofNat 8), .inr (false, (4, .ofNat 0))), (32, (0, .ofNat 11), .inr (false, (5, .ofNat 0)))], [], [])], [], 0, 0)
def cu1490 : List sxCu := [
  (2, (3, [(1, .ofNat 0, .ofNat 1), (2, .ofNat 0, .ofNat 12)], [], [(0, .inl 0), (1, .inl 32), (2, .inr (false, (1, .ofNat 0))), (3, .inr (false, (2, .ofNat 0)))], [], [], [], []), ((0, 2, .ofNat 12), (0, 0, .ofNat 0), (0, 0, .ofNat 0)), 0, 0)]
set_option maxRecDepth 1000000 in
theorem cv1490 {gh : sxGh} (hg : sxGd sxKw gh) : sxCtV sxKw gh ct1490 := sxMeB_ok (cts := [ct627]) (cuts := cu1490) (sp := []) 241 sorry hg (by decide) (by decide) (List.forall_mem_cons.mpr ⟨cv627 hg, (fun _ h => absurd h List.not_mem_nil)⟩)
/-- LotBeliefs.right -/
def ct1540 : sxCt := (150, 6, (2, [(1, .negSucc 2147483647, .ofNat 2147483647)], [], [(0, .inl 0), (1, .inr (false, (1, .ofNat 0)))], [], [], [], []), [(21, 0), (22, 0), (25, 0), (26, 0), (30, 0), (31, 0), (32, 1), (32, 2), (32, 3), (32, 4), (32, 9), (32, 11), (32, 12), (33000037, 0)], [
  (7, [(1, .ofNat 0, .ofNat 1), (2, .negSucc 0, .ofNat 51), (3, .ofNat 0, .ofNat 4), (4, .ofNat 0, .ofNat 63), (5, .ofNat 0, .ofNat 4095), (6, .negSucc 2147483647, .ofNat 2147483647)], [], [], [.inr (false, (2, .ofNat 0))], [(32, (0, .ofNat 2), .inr (false, (3, .ofNat 0))), (32, (0, .ofNat 3), .inr (false, (4, .ofNat 0))), (32, (0, .ofNat 8), .inr (false, (5, .ofNat 0))), (32, (0, .ofNat 11), .inr (false, (6, .ofNat 0)))], [], [])], [
  (1, (3, [(2, .negSucc 2147483647, .ofNat 2147483647)], [], [], [], [(30, (0, .ofNat 1), .inr (false, (2, .ofNat 0)))], [], []))], 1, 6)
def cu1540 : List sxCu := [
  (17, (7, [(1, .ofNat 0, .ofNat 1), (2, .ofNat 0, .ofNat 52), (3, .ofNat 0, .ofNat 4), (4, .ofNat 0, .ofNat 63), (5, .ofNat 0, .ofNat 4095), (6, .negSucc 2147483647, .ofNat 2147483647)], [], [(0, .inl 0), (1, .inr (false, (1, .ofNat 0))), (2, .inr (false, (2, .ofNat 0)))], [], [(0, (0, .ofNat 12), .inl 32), (32, (0, .ofNat 2), .inr (false, (3, .ofNat 0))), (32, (0, .ofNat 3), .inr (false, (4, .ofNat 0))), (32, (0, .ofNat 8), .inr (false, (5, .ofNat 0))), (32, (0, .ofNat 11), .inr (false, (6, .ofNat 0)))], [], []), ((0, 2, .ofNat 52), (0, 0, .ofNat 0), (0, 0, .ofNat 0)), 0, 0)]
set_option maxRecDepth 1000000 in
theorem cv1540 {gh : sxGh} (hg : sxGd sxKw gh) : sxCtV sxKw gh ct1540 := sxMeB_ok (cts := [ct522, ct619, ct615, ct1490]) (cuts := cu1540) (sp := []) 153 sorry hg (by decide) (by decide) (List.forall_mem_cons.mpr ⟨cv522 hg, (List.forall_mem_cons.mpr ⟨cv619 hg, (List.forall_mem_cons.mpr ⟨cv615 hg, (List.forall_mem_cons.mpr ⟨cv1490 hg, (fun _ h => absurd h List.not_mem_nil)⟩)⟩)⟩)⟩)
/-- LotBeliefsModel.togetherIn -/
def ct1557 : sxCt := (275, 0, (3, [(1, .negSucc 2147483647, .ofNat 2147483647), (2, .ofNat 0, .ofNat 51)], [], [(0, .inl 78), (1, .inr (false, (1, .ofNat 0))), (2, .inr (false, (2, .ofNat 0)))], [], [], [], []), [], [
  (4, [(3, .negSucc 9223372036854775807, .ofNat 9223372036854775807)], [], [], [.inr (true, (3, .ofNat 0))], [], [], [])], [], 0, 0)
def cu1557 : List sxCu := [
  (10, (5, [(1, .negSucc 2147483647, .ofNat 2147483647), (2, .ofNat 0, .ofNat 51), (3, .negSucc 9223372036854775807, .ofNat 9223372036854775807), (4, .ofNat 0, .ofNat 12)], [], [(0, .inl 78), (1, .inr (false, (1, .ofNat 0))), (2, .inr (false, (2, .ofNat 0))), (3, .inr (true, (3, .ofNat 0))), (5, .inr (false, (4, .ofNat 0)))], [], [(78, (0, .ofNat 19), .inl 89)], [], []), ((0, 4, .ofNat 12), (0, 0, .ofNat 0), (0, 0, .ofNat 0)), 0, 0)]
set_option maxRecDepth 1000000 in
theorem cv1557 {gh : sxGh} (hg : sxGd sxKw gh) : sxCtV sxKw gh ct1557 := sxMeB_ok (cts := []) (cuts := cu1557) (sp := []) 97 sorry hg (by decide) (by decide) (fun _ h => absurd h List.not_mem_nil)
/-- LotBeliefs.killer -/
def ct1560 : sxCt := (152, 6, (2, [(1, .negSucc 2147483647, .ofNat 2147483647)], [], [(0, .inl 0), (1, .inr (false, (1, .ofNat 0)))], [], [], [], []), [(21, 0), (22, 0), (25, 0), (26, 0), (30, 0), (32, 1), (32, 2), (32, 3), (32, 4), (32, 9), (32, 11), (32, 12), (33000037, 0)], [
  (7, [(1, .ofNat 0, .ofNat 11), (2, .negSucc 0, .ofNat 11), (3, .ofNat 0, .ofNat 4), (4, .ofNat 0, .ofNat 63), (5, .ofNat 0, .ofNat 4095), (6, .negSucc 2147483647, .ofNat 2147483647)], [], [], [.inr (false, (2, .ofNat 0))], [(32, (0, .ofNat 2), .inr (false, (3, .ofNat 0))), (32, (0, .ofNat 3), .inr (false, (4, .ofNat 0))), (32, (0, .ofNat 8), .inr (false, (5, .ofNat 0))), (32, (0, .ofNat 11), .inr (false, (6, .ofNat 0)))], [], [])], [
  (0, (3, [(2, .negSucc 2147483647, .ofNat 2147483647)], [], [], [], [(30, (0, .ofNat 0), .inr (false, (2, .ofNat 0)))], [], []))], 1, 6)
def cu1560 : List sxCu := [
  (36, (8, [(1, .ofNat 0, .ofNat 11), (2, .negSucc 9223372036854775807, .ofNat 9223372036854775807), (3, .ofNat 0, .ofNat 12), (4, .ofNat 0, .ofNat 4), (5, .ofNat 0, .ofNat 63), (6, .ofNat 0, .ofNat 4095), (7, .negSucc 2147483647, .ofNat 2147483647)], [], [(0, .inl 0), (1, .inr (false, (1, .ofNat 0))), (2, .inr (true, (2, .ofNat 0))), (4, .inr (false, (3, .ofNat 0)))], [], [(0, (0, .ofNat 7), .inl 27), (0, (0, .ofNat 12), .inl 32), (27, (0, .ofNat 0), .inl 28), (27, (0, .ofNat 1), .inr (false, (4, .ofNat 0))), (27, (0, .ofNat 2), .inr (false, (5, .ofNat 0))), (32, (0, .ofNat 2), .inr (false, (4, .ofNat 0))), (32, (0, .ofNat 3), .inr (false, (5, .ofNat 0))), (32, (0, .ofNat 7), .inl 36), (32, (0, .ofNat 8), .inr (false, (6, .ofNat 0))), (32, (0, .ofNat 11), .inr (false, (7, .ofNat 0)))], [], []), ((0, 3, .ofNat 12), (0, 0, .ofNat 0), (0, 0, .ofNat 0)), 0, 0)]
set_option maxRecDepth 1000000 in
theorem cv1560 {gh : sxGh} (hg : sxGd sxKw gh) : sxCtV sxKw gh ct1560 := sxMeB_ok (cts := [ct521]) (cuts := cu1560) (sp := []) 392 sorry hg (by decide) (by decide) (List.forall_mem_cons.mpr ⟨cv521 hg, (fun _ h => absurd h List.not_mem_nil)⟩)
/-- LotBeliefs.following -/
def ct1563 : sxCt := (154, 3, (3, [(1, .negSucc 2147483647, .ofNat 2147483647), (2, .negSucc 2147483647, .ofNat 2147483647)], [], [(0, .inl 0), (1, .inr (false, (1, .ofNat 0))), (2, .inr (false, (2, .ofNat 0)))], [], [], [], []), [(30, 0)], [
  (4, [(1, .ofNat 0, .ofNat 4095), (2, .ofNat 0, .ofNat 51), (3, .ofNat 0, .ofNat 4095)], [], [], [.inr (false, (3, .ofNat 0))], [], [], [])], [
  (1, (4, [(3, .negSucc 2147483647, .ofNat 2147483647)], [], [], [], [(30, (0, .ofNat 1), .inr (false, (3, .ofNat 0)))], [], []))], 1, 6)
def cu1563 : List sxCu := [
  (33, (6, [(1, .ofNat 0, .ofNat 4095), (2, .ofNat 0, .ofNat 51), (3, .negSucc 9223372036854775807, .ofNat 9223372036854775807), (4, .ofNat 0, .ofNat 4095), (5, .ofNat 0, .ofNat 12)], [], [(0, .inl 0), (1, .inr (false, (1, .ofNat 0))), (2, .inr (false, (2, .ofNat 0))), (3, .inr (true, (3, .ofNat 0))), (5, .inr (false, (4, .ofNat 0))), (6, .inr (false, (5, .ofNat 0)))], [], [], [], []), ((0, 5, .ofNat 12), (0, 0, .ofNat 0), (0, 0, .ofNat 0)), 0, 0)]
set_option maxRecDepth 1000000 in
theorem cv1563 {gh : sxGh} (hg : sxGd sxKw gh) : sxCtV sxKw gh ct1563 := sxMeB_ok (cts := [ct619, ct615]) (cuts := cu1563) (sp := []) 295 sorry hg (by decide) (by decide) (List.forall_mem_cons.mpr ⟨cv619 hg, (List.forall_mem_cons.mpr ⟨cv615 hg, (fun _ h => absurd h List.not_mem_nil)⟩)⟩)
/-- LotBeliefsModel.followingOf -/
def ct1564 : sxCt := (298, 0, (2, [(1, .negSucc 9223372036854775807, .ofNat 9223372036854775807)], [], [(0, .inl 78), (1, .inr (true, (1, .ofNat 0)))], [], [], [], []), [], [
  (3, [(2, .ofNat 0, .ofNat 4095)], [], [], [.inr (false, (2, .ofNat 0))], [], [], [])], [], 0, 0)
def cu1564 : List sxCu := [
  (5, (4, [(1, .negSucc 9223372036854775807, .ofNat 9223372036854775807), (2, .ofNat 0, .ofNat 4095), (3, .ofNat 0, .ofNat 12)], [], [(0, .inl 78), (1, .inr (true, (1, .ofNat 0))), (3, .inr (false, (2, .ofNat 0))), (4, .inr (false, (3, .ofNat 0)))], [], [], [], []), ((0, 3, .ofNat 12), (0, 0, .ofNat 0), (0, 0, .ofNat 0)), 0, 0)]
set_option maxRecDepth 1000000 in
theorem cv1564 {gh : sxGh} (hg : sxGd sxKw gh) : sxCtV sxKw gh ct1564 := sxMeB_ok (cts := []) (cuts := cu1564) (sp := []) 104 sorry hg (by decide) (by decide) (fun _ h => absurd h List.not_mem_nil)
/-- LotBeliefs.eldest -/
def ct1565 : sxCt := (155, 6, (2, [(1, .negSucc 2147483647, .ofNat 2147483647)], [], [(0, .inl 0), (1, .inr (false, (1, .ofNat 0)))], [], [], [], []), [(21, 0), (22, 0), (25, 0), (26, 0), (30, 0), (32, 1), (32, 2), (32, 3), (32, 4), (32, 9), (32, 11), (32, 12), (33000037, 0)], [
  (7, [(1, .ofNat 0, .ofNat 51), (2, .negSucc 0, .ofNat 16), (3, .ofNat 0, .ofNat 4), (4, .ofNat 0, .ofNat 63), (5, .ofNat 0, .ofNat 4095), (6, .negSucc 2147483647, .ofNat 2147483647)], [], [], [.inr (false, (2, .ofNat 0))], [(32, (0, .ofNat 2), .inr (false, (3, .ofNat 0))), (32, (0, .ofNat 3), .inr (false, (4, .ofNat 0))), (32, (0, .ofNat 8), .inr (false, (5, .ofNat 0))), (32, (0, .ofNat 11), .inr (false, (6, .ofNat 0)))], [], [])], [
  (1, (3, [(2, .negSucc 2147483647, .ofNat 2147483647)], [], [], [], [(30, (0, .ofNat 1), .inr (false, (2, .ofNat 0)))], [], []))], 1, 6)
def cu1565 : List sxCu := [
  (20, (8, [(1, .ofNat 0, .ofNat 51), (2, .ofNat 0, .ofNat 4095), (3, .ofNat 0, .ofNat 12), (4, .ofNat 0, .ofNat 4), (5, .ofNat 0, .ofNat 63), (6, .ofNat 0, .ofNat 4095), (7, .negSucc 2147483647, .ofNat 2147483647)], [], [(0, .inl 0), (1, .inr (false, (1, .ofNat 0))), (2, .inr (false, (2, .ofNat 0))), (3, .inr (false, (3, .ofNat 0)))], [], [(0, (0, .ofNat 7), .inl 27), (0, (0, .ofNat 12), .inl 32), (27, (0, .ofNat 0), .inl 28), (27, (0, .ofNat 1), .inr (false, (4, .ofNat 0))), (27, (0, .ofNat 2), .inr (false, (5, .ofNat 0))), (32, (0, .ofNat 2), .inr (false, (4, .ofNat 0))), (32, (0, .ofNat 3), .inr (false, (5, .ofNat 0))), (32, (0, .ofNat 8), .inr (false, (6, .ofNat 0))), (32, (0, .ofNat 11), .inr (false, (7, .ofNat 0)))], [], []), ((0, 3, .ofNat 12), (0, 0, .ofNat 0), (0, 0, .ofNat 0)), 0, 0)]
set_option maxRecDepth 1000000 in
theorem cv1565 {gh : sxGh} (hg : sxGd sxKw gh) : sxCtV sxKw gh ct1565 := sxMeB_ok (cts := [ct521, ct522]) (cuts := cu1565) (sp := []) 309 sorry hg (by decide) (by decide) (List.forall_mem_cons.mpr ⟨cv521 hg, (List.forall_mem_cons.mpr ⟨cv522 hg, (fun _ h => absurd h List.not_mem_nil)⟩)⟩)
/-- LotBeliefs.quarrels -/
def ct1566 : sxCt := (156, 3, (2, [(1, .negSucc 2147483647, .ofNat 2147483647)], [], [(0, .inl 0), (1, .inr (false, (1, .ofNat 0)))], [], [], [], []), [(30, 0)], [
  (3, [(1, .ofNat 0, .ofNat 51), (2, .negSucc 2147483647, .ofNat 2147483647)], [], [], [.inr (false, (2, .ofNat 0))], [], [], [])], [
  (1, (3, [(2, .negSucc 2147483647, .ofNat 2147483647)], [], [], [], [(30, (0, .ofNat 1), .inr (false, (2, .ofNat 0)))], [], []))], 1, 6)
def cu1566 : List sxCu := [
  (25, (5, [(1, .ofNat 0, .ofNat 51), (2, .negSucc 2147483647, .ofNat 2147483647), (3, .ofNat 0, .ofNat 11), (4, .ofNat 1, .ofNat 12)], [(3, 4, .negSucc 0)], [(0, .inl 0), (1, .inr (false, (1, .ofNat 0))), (2, .inr (false, (2, .ofNat 0))), (3, .inr (false, (3, .ofNat 0))), (4, .inr (false, (4, .ofNat 0)))], [], [], [], []), ((0, 3, .ofNat 12), (0, 4, .ofNat 12), (0, 0, .ofNat 0)), 0, 0), 
  (9, (4, [(1, .ofNat 0, .ofNat 51), (2, .negSucc 2147483647, .ofNat 2147483647), (3, .ofNat 0, .ofNat 12)], [], [(0, .inl 0), (1, .inr (false, (1, .ofNat 0))), (2, .inr (false, (2, .ofNat 0))), (3, .inr (false, (3, .ofNat 0)))], [], [], [], []), ((0, 3, .ofNat 12), (0, 0, .ofNat 12), (0, 0, .ofNat 0)), 0, 0)]
set_option maxRecDepth 1000000 in
theorem cv1566 {gh : sxGh} (hg : sxGd sxKw gh) : sxCtV sxKw gh ct1566 := sxMeB_ok (cts := []) (cuts := cu1566) (sp := []) 214 sorry hg (by decide) (by decide) (fun _ h => absurd h List.not_mem_nil)
/-- LotBeliefsModel.quarrels -/
def ct1567 : sxCt := (308, 2, (2, [(1, .negSucc 2147483647, .ofNat 2147483647)], [], [(0, .inl 78), (1, .inr (false, (1, .ofNat 0)))], [], [], [], []), [(78, 1), (80, 0)], [
  (4, [(2, .negSucc 2147483647, .ofNat 2147483647), (3, .ofNat 0, .ofNat 1)], [], [], [.inr (false, (2, .ofNat 0))], [(78, (0, .ofNat 0), .inr (false, (3, .ofNat 0)))], [], [])], [], 0, 0)
def cu1567 : List sxCu := [
  (32, (4, [(1, .ofNat 0, .ofNat 51), (2, .negSucc 2147483647, .ofNat 2147483647), (3, .ofNat 0, .ofNat 12)], [], [(0, .inl 78), (1, .inr (false, (1, .ofNat 0))), (2, .inr (false, (2, .ofNat 0))), (3, .inr (false, (3, .ofNat 0)))], [], [(78, (0, .ofNat 0), .inr (false, (0, .ofNat 0)))], [], []), ((0, 3, .ofNat 12), (0, 0, .ofNat 12), (0, 0, .ofNat 0)), 0, 0), 
  (47, (6, [(1, .ofNat 0, .ofNat 51), (2, .negSucc 2147483647, .ofNat 2147483647), (3, .ofNat 0, .ofNat 11), (4, .ofNat 1, .ofNat 12), (5, .ofNat 1, .ofNat 12)], [(3, 4, .negSucc 0), (3, 5, .negSucc 0)], [(0, .inl 78), (1, .inr (false, (1, .ofNat 0))), (2, .inr (false, (2, .ofNat 0))), (3, .inr (false, (3, .ofNat 0))), (4, .inr (false, (4, .ofNat 0)))], [], [(78, (0, .ofNat 0), .inr (false, (0, .ofNat 0))), (78, (0, .ofNat 12), .inl 82), (82, (0, .ofNat 1), .inr (false, (5, .ofNat 0)))], [], []), ((0, 3, .ofNat 12), (0, 4, .ofNat 12), (0, 0, .ofNat 0)), 0, 0)]
set_option maxRecDepth 1000000 in
theorem cv1567 {gh : sxGh} (hg : sxGd sxKw gh) : sxCtV sxKw gh ct1567 := sxMeB_ok (cts := []) (cuts := cu1567) (sp := []) 236 sorry hg (by decide) (by decide) (fun _ h => absurd h List.not_mem_nil)
/-- LotBeliefsModel.quarrels -/
def ct1568 : sxCt := (308, 2, (2, [(1, .ofNat 0, .ofNat 51)], [], [(0, .inl 78), (1, .inr (false, (1, .ofNat 0)))], [], [], [], []), [(78, 1)], [
  (3, [(2, .negSucc 2147483647, .ofNat 2147483647)], [], [], [.inr (false, (2, .ofNat 0))], [(78, (0, .ofNat 0), .inr (false, (0, .ofNat 0)))], [], [])], [], 0, 0)
def cu1568 : List sxCu := [
  (32, (4, [(1, .ofNat 0, .ofNat 51), (2, .negSucc 2147483647, .ofNat 2147483647), (3, .ofNat 0, .ofNat 12)], [], [(0, .inl 78), (1, .inr (false, (1, .ofNat 0))), (2, .inr (false, (2, .ofNat 0))), (3, .inr (false, (3, .ofNat 0)))], [], [(78, (0, .ofNat 0), .inr (false, (0, .ofNat 0)))], [], []), ((0, 3, .ofNat 12), (0, 0, .ofNat 12), (0, 0, .ofNat 0)), 0, 0), 
  (47, (6, [(1, .ofNat 0, .ofNat 51), (2, .negSucc 2147483647, .ofNat 2147483647), (3, .ofNat 0, .ofNat 11), (4, .ofNat 1, .ofNat 12), (5, .ofNat 1, .ofNat 12)], [(3, 4, .negSucc 0), (3, 5, .negSucc 0)], [(0, .inl 78), (1, .inr (false, (1, .ofNat 0))), (2, .inr (false, (2, .ofNat 0))), (3, .inr (false, (3, .ofNat 0))), (4, .inr (false, (4, .ofNat 0)))], [], [(78, (0, .ofNat 0), .inr (false, (0, .ofNat 0))), (78, (0, .ofNat 12), .inl 82), (82, (0, .ofNat 1), .inr (false, (5, .ofNat 0)))], [], []), ((0, 3, .ofNat 12), (0, 4, .ofNat 12), (0, 0, .ofNat 0)), 0, 0)]
set_option maxRecDepth 1000000 in
theorem cv1568 {gh : sxGh} (hg : sxGd sxKw gh) : sxCtV sxKw gh ct1568 := sxMeB_ok (cts := []) (cuts := cu1568) (sp := []) 168 sorry hg (by decide) (by decide) (fun _ h => absurd h List.not_mem_nil)
/-- LotBeliefsModel.peace -/
def ct1569 : sxCt := (309, 2, (2, [(1, .negSucc 2147483647, .ofNat 2147483647)], [], [(0, .inl 78), (1, .inr (false, (1, .ofNat 0)))], [], [], [], []), [(78, 1), (80, 0)], [
  (4, [(2, .ofNat 0, .ofNat 4095), (3, .ofNat 0, .ofNat 1)], [], [], [.inr (false, (2, .ofNat 0))], [(78, (0, .ofNat 0), .inr (false, (3, .ofNat 0)))], [], [])], [], 0, 0)
def cu1569 : List sxCu := [
  (32, (4, [(1, .ofNat 0, .ofNat 51), (2, .ofNat 0, .ofNat 4095), (3, .ofNat 0, .ofNat 4096)], [(2, 3, .ofNat 0)], [(0, .inl 78), (1, .inr (false, (1, .ofNat 0))), (2, .inr (false, (2, .ofNat 0))), (3, .inr (false, (3, .ofNat 0)))], [], [(78, (0, .ofNat 0), .inr (false, (0, .ofNat 0)))], [], []), ((0, 3, .ofNat 4096), (0, 0, .ofNat 13), (0, 0, .ofNat 0)), 0, 0), 
  (66, (7, [(1, .ofNat 0, .ofNat 51), (2, .ofNat 0, .ofNat 4095), (3, .ofNat 0, .ofNat 4095), (4, .ofNat 0, .ofNat 1), (5, .ofNat 0, .ofNat 12), (6, .ofNat 0, .ofNat 12)], [(2, 3, .ofNat 0), (5, 6, .ofNat 0)], [(0, .inl 78), (1, .inr (false, (1, .ofNat 0))), (2, .inr (false, (2, .ofNat 0))), (3, .inr (false, (3, .ofNat 0))), (4, .inr (false, (4, .ofNat 0))), (5, .inr (false, (5, .ofNat 0)))], [], [(78, (0, .ofNat 0), .inr (false, (0, .ofNat 0))), (78, (0, .ofNat 12), .inl 82), (82, (0, .ofNat 1), .inr (false, (6, .ofNat 0)))], [], []), ((0, 3, .ofNat 4096), (0, 5, .ofNat 12), (0, 0, .ofNat 13)), 0, 0), 
  (81, (8, [(1, .ofNat 0, .ofNat 51), (2, .ofNat 0, .ofNat 4095), (3, .ofNat 0, .ofNat 4095), (4, .ofNat 0, .ofNat 1), (5, .ofNat 0, .ofNat 11), (6, .ofNat 0, .ofNat 12), (7, .ofNat 1, .ofNat 12)], [(2, 3, .ofNat 0), (5, 6, .ofNat 0), (5, 7, .negSucc 0)], [(0, .inl 78), (1, .inr (false, (1, .ofNat 0))), (2, .inr (false, (2, .ofNat 0))), (3, .inr (false, (3, .ofNat 0))), (4, .inr (false, (4, .ofNat 0))), (5, .inr (false, (5, .ofNat 0))), (6, .inr (false, (6, .ofNat 0)))], [], [(78, (0, .ofNat 0), .inr (false, (0, .ofNat 0))), (78, (0, .ofNat 12), .inl 82), (82, (0, .ofNat 1), .inr (false, (7, .ofNat 0)))], [], []), ((0, 3, .ofNat 4096), (0, 5, .ofNat 12), (0, 6, .ofNat 12)), 0, 0)]
set_option maxRecDepth 1000000 in
theorem cv1569 {gh : sxGh} (hg : sxGd sxKw gh) : sxCtV sxKw gh ct1569 := sxMeB_ok (cts := [ct622]) (cuts := cu1569) (sp := []) 287 sorry hg (by decide) (by decide) (List.forall_mem_cons.mpr ⟨cv622 hg, (fun _ h => absurd h List.not_mem_nil)⟩)
/-- LotBeliefs.Subsets.allFriends -/
def ct1597 : sxCt := (67, 0, (3, [(1, .ofNat 0, .ofNat 4095), (2, .ofNat 0, .ofNat 12)], [], [(0, .inl 45), (1, .inr (false, (1, .ofNat 0))), (2, .inr (false, (2, .ofNat 0)))], [], [], [], []), [], [
  (3, [(2, .ofNat 1, .ofNat 12)], [], [], [.inr (false, (0, .ofNat 0))], [], [], []), 
  (3, [], [], [], [.inr (false, (0, .ofNat 1))], [], [], [])], [], 0, 0)
def cu1597 : List sxCu := [
  (2, (4, [(1, .ofNat 0, .ofNat 4095), (2, .ofNat 0, .ofNat 12), (3, .ofNat 0, .ofNat 12)], [], [(0, .inl 45), (1, .inr (false, (1, .ofNat 0))), (2, .inr (false, (2, .ofNat 0))), (3, .inr (false, (3, .ofNat 0)))], [], [], [], []), ((0, 3, .ofNat 12), (0, 0, .ofNat 0), (0, 0, .ofNat 0)), 0, 0)]
set_option maxRecDepth 1000000 in
theorem cv1597 {gh : sxGh} (hg : sxGd sxKw gh) : sxCtV sxKw gh ct1597 := sxMeB_ok (cts := []) (cuts := cu1597) (sp := []) 88 sorry hg (by decide) (by decide) (fun _ h => absurd h List.not_mem_nil)
/-- LotBeliefs.Subsets.peaceful -/
def ct1598 : sxCt := (66, 1, (2, [(1, .ofNat 0, .ofNat 51)], [], [(0, .inl 45), (1, .inl 3), (2, .inr (false, (1, .ofNat 0)))], [], [], [], []), [(47, 0)], [
  (3, [(2, .ofNat 0, .ofNat 4095)], [], [], [.inr (false, (2, .ofNat 0))], [], [], [])], [], 0, 0)
def cu1598 : List sxCu := [
  (2, (3, [(1, .ofNat 0, .ofNat 51), (2, .ofNat 0, .ofNat 12)], [], [(0, .inl 45), (1, .inl 3), (2, .inr (false, (1, .ofNat 0))), (3, .inr (false, (2, .ofNat 0)))], [], [], [], []), ((0, 2, .ofNat 4108), (0, 0, .ofNat 13), (0, 0, .ofNat 0)), 0, 0), 
  (20, (5, [(1, .ofNat 0, .ofNat 51), (2, .ofNat 0, .ofNat 11), (3, .ofNat 0, .ofNat 12), (4, .ofNat 1, .ofNat 12)], [(2, 4, .negSucc 0)], [(0, .inl 45), (1, .inl 3), (2, .inr (false, (1, .ofNat 0))), (3, .inr (false, (2, .ofNat 0))), (4, .inr (false, (3, .ofNat 0)))], [], [(3, (0, .ofNat 2), .inr (false, (4, .ofNat 0))), (45, (0, .ofNat 3), .inl 47)], [], []), ((0, 2, .ofNat 4108), (0, 3, .ofNat 12), (0, 0, .ofNat 0)), 0, 0), 
  (73, (6, [(1, .ofNat 0, .ofNat 51), (2, .ofNat 0, .ofNat 4095), (3, .ofNat 0, .ofNat 63), (4, .ofNat 1, .ofNat 4096), (5, .ofNat 0, .ofNat 12)], [(2, 4, .negSucc 0)], [(0, .inl 45), (1, .inl 3), (2, .inr (false, (1, .ofNat 0))), (3, .inr (false, (2, .ofNat 0))), (4, .inr (false, (3, .ofNat 0))), (5, .inr (false, (4, .ofNat 0)))], [], [(3, (0, .ofNat 2), .inr (false, (5, .ofNat 0)))], [], []), ((0, 4, .ofNat 4096), (0, 0, .ofNat 0), (0, 0, .ofNat 0)), 0, 0)]
set_option maxRecDepth 1000000 in
theorem cv1598 {gh : sxGh} (hg : sxGd sxKw gh) : sxCtV sxKw gh ct1598 := sxMeB_ok (cts := [ct1597, ct616]) (cuts := cu1598) (sp := []) 178 sorry hg (by decide) (by decide) (List.forall_mem_cons.mpr ⟨cv1597 hg, (List.forall_mem_cons.mpr ⟨cv616 hg, (fun _ h => absurd h List.not_mem_nil)⟩)⟩)
/-- LotBeliefsModel.peace -/
def ct1599 : sxCt := (309, 2, (2, [(1, .ofNat 0, .ofNat 51)], [], [(0, .inl 78), (1, .inr (false, (1, .ofNat 0)))], [], [], [], []), [(78, 1)], [
  (3, [(2, .ofNat 0, .ofNat 4095)], [], [], [.inr (false, (2, .ofNat 0))], [(78, (0, .ofNat 0), .inr (false, (0, .ofNat 0)))], [], [])], [], 0, 0)
def cu1599 : List sxCu := [
  (32, (4, [(1, .ofNat 0, .ofNat 51), (2, .ofNat 0, .ofNat 4095), (3, .ofNat 0, .ofNat 4096)], [(2, 3, .ofNat 0)], [(0, .inl 78), (1, .inr (false, (1, .ofNat 0))), (2, .inr (false, (2, .ofNat 0))), (3, .inr (false, (3, .ofNat 0)))], [], [(78, (0, .ofNat 0), .inr (false, (0, .ofNat 0)))], [], []), ((0, 3, .ofNat 4096), (0, 0, .ofNat 13), (0, 0, .ofNat 0)), 0, 0), 
  (66, (7, [(1, .ofNat 0, .ofNat 51), (2, .ofNat 0, .ofNat 4095), (3, .ofNat 0, .ofNat 4095), (4, .ofNat 0, .ofNat 1), (5, .ofNat 0, .ofNat 12), (6, .ofNat 0, .ofNat 12)], [(2, 3, .ofNat 0), (5, 6, .ofNat 0)], [(0, .inl 78), (1, .inr (false, (1, .ofNat 0))), (2, .inr (false, (2, .ofNat 0))), (3, .inr (false, (3, .ofNat 0))), (4, .inr (false, (4, .ofNat 0))), (5, .inr (false, (5, .ofNat 0)))], [], [(78, (0, .ofNat 0), .inr (false, (0, .ofNat 0))), (78, (0, .ofNat 12), .inl 82), (82, (0, .ofNat 1), .inr (false, (6, .ofNat 0)))], [], []), ((0, 3, .ofNat 4096), (0, 5, .ofNat 12), (0, 0, .ofNat 13)), 0, 0), 
  (81, (8, [(1, .ofNat 0, .ofNat 51), (2, .ofNat 0, .ofNat 4095), (3, .ofNat 0, .ofNat 4095), (4, .ofNat 0, .ofNat 1), (5, .ofNat 0, .ofNat 11), (6, .ofNat 0, .ofNat 12), (7, .ofNat 1, .ofNat 12)], [(2, 3, .ofNat 0), (5, 6, .ofNat 0), (5, 7, .negSucc 0)], [(0, .inl 78), (1, .inr (false, (1, .ofNat 0))), (2, .inr (false, (2, .ofNat 0))), (3, .inr (false, (3, .ofNat 0))), (4, .inr (false, (4, .ofNat 0))), (5, .inr (false, (5, .ofNat 0))), (6, .inr (false, (6, .ofNat 0)))], [], [(78, (0, .ofNat 0), .inr (false, (0, .ofNat 0))), (78, (0, .ofNat 12), .inl 82), (82, (0, .ofNat 1), .inr (false, (7, .ofNat 0)))], [], []), ((0, 3, .ofNat 4096), (0, 5, .ofNat 12), (0, 6, .ofNat 12)), 0, 0)]
set_option maxRecDepth 1000000 in
theorem cv1599 {gh : sxGh} (hg : sxGd sxKw gh) : sxCtV sxKw gh ct1599 := sxMeB_ok (cts := [ct622]) (cuts := cu1599) (sp := []) 219 sorry hg (by decide) (by decide) (List.forall_mem_cons.mpr ⟨cv622 hg, (fun _ h => absurd h List.not_mem_nil)⟩)
/-- LotBeliefs.Subsets.peaceful -/
def ct1600 : sxCt := (66, 1, (2, [(1, .ofNat 0, .ofNat 51)], [], [(0, .inl 45), (1, .inl 11), (2, .inr (false, (1, .ofNat 0)))], [], [], [], []), [(47, 0)], [
  (3, [(2, .ofNat 0, .ofNat 4095)], [], [], [.inr (false, (2, .ofNat 0))], [], [], [])], [], 0, 0)
def cu1600 : List sxCu := [
  (2, (3, [(1, .ofNat 0, .ofNat 51), (2, .ofNat 0, .ofNat 12)], [], [(0, .inl 45), (1, .inl 11), (2, .inr (false, (1, .ofNat 0))), (3, .inr (false, (2, .ofNat 0)))], [], [], [], []), ((0, 2, .ofNat 4108), (0, 0, .ofNat 13), (0, 0, .ofNat 0)), 0, 0), 
  (20, (5, [(1, .ofNat 0, .ofNat 51), (2, .ofNat 0, .ofNat 11), (3, .ofNat 0, .ofNat 12), (4, .ofNat 1, .ofNat 12)], [(2, 4, .negSucc 0)], [(0, .inl 45), (1, .inl 11), (2, .inr (false, (1, .ofNat 0))), (3, .inr (false, (2, .ofNat 0))), (4, .inr (false, (3, .ofNat 0)))], [], [(11, (0, .ofNat 2), .inr (false, (4, .ofNat 0))), (45, (0, .ofNat 3), .inl 47)], [], []), ((0, 2, .ofNat 4108), (0, 3, .ofNat 12), (0, 0, .ofNat 0)), 0, 0), 
  (73, (6, [(1, .ofNat 0, .ofNat 51), (2, .ofNat 0, .ofNat 4095), (3, .ofNat 0, .ofNat 63), (4, .ofNat 1, .ofNat 4096), (5, .ofNat 0, .ofNat 12)], [(2, 4, .negSucc 0)], [(0, .inl 45), (1, .inl 11), (2, .inr (false, (1, .ofNat 0))), (3, .inr (false, (2, .ofNat 0))), (4, .inr (false, (3, .ofNat 0))), (5, .inr (false, (4, .ofNat 0)))], [], [(11, (0, .ofNat 2), .inr (false, (5, .ofNat 0)))], [], []), ((0, 4, .ofNat 4096), (0, 0, .ofNat 0), (0, 0, .ofNat 0)), 0, 0)]
set_option maxRecDepth 1000000 in
theorem cv1600 {gh : sxGh} (hg : sxGd sxKw gh) : sxCtV sxKw gh ct1600 := sxMeB_ok (cts := [ct1597, ct616]) (cuts := cu1600) (sp := []) 178 sorry hg (by decide) (by decide) (List.forall_mem_cons.mpr ⟨cv1597 hg, (List.forall_mem_cons.mpr ⟨cv616 hg, (fun _ h => absurd h List.not_mem_nil)⟩)⟩)
/-- LotBeliefs.worst -/
def ct1601 : sxCt := (158, 6, (2, [(1, .negSucc 2147483647, .ofNat 2147483647)], [], [(0, .inl 0), (1, .inr (false, (1, .ofNat 0)))], [], [], [], []), [(21, 0), (22, 0), (25, 0), (26, 0), (30, 0), (32, 1), (32, 2), (32, 3), (32, 4), (32, 9), (32, 11), (32, 12), (58, 2), (58, 3), (58, 6), (58, 7), (62, 2), (62, 3), (62, 6), (62, 7), (66, 2), (66, 3), (66, 6), (66, 7), (70, 2), (70, 3), (70, 6), (70, 7), (74, 2), (74, 3), (74, 6), (74, 7), (33000037, 0), (59000061, 0), (63000065, 0), (67000069, 0), (71000073, 0), (75000077, 0)], [
  (3, [(1, .ofNat 0, .ofNat 1), (2, .negSucc 9223372036854775807, .ofNat 9223372036854775807)], [], [], [.inr (true, (2, .ofNat 0))], [], [], [])], [
  (1, (3, [(2, .negSucc 2147483647, .ofNat 2147483647)], [], [], [], [(30, (0, .ofNat 1), .inr (false, (2, .ofNat 0)))], [], [])), 
  (2, (3, [(1, .ofNat 0, .ofNat 1), (2, .negSucc 2147483647, .ofNat 2147483647)], [], [], [], [(30, (0, .ofNat 2), .inr (false, (2, .ofNat 0)))], [], []))], 1, 6)
def cu1601 : List sxCu := []
set_option maxRecDepth 1000000 in
theorem cv1601 {gh : sxGh} (hg : sxGd sxKw gh) : sxCtV sxKw gh ct1601 := sxMeB_ok (cts := [ct896, ct897, ct770, ct898, ct899, ct900, ct774, ct901, ct848, ct852, ct731, ct735, ct809, ct813, ct887, ct891, ct892, ct893, ct894, ct895]) (cuts := cu1601) (sp := []) 570 sorry hg (by decide) (by decide) (List.forall_mem_cons.mpr ⟨cv896 hg, (List.forall_mem_cons.mpr ⟨cv897 hg, (List.forall_mem_cons.mpr ⟨cv770 hg, (List.forall_mem_cons.mpr ⟨cv898 hg, (List.forall_mem_cons.mpr ⟨cv899 hg, (List.forall_mem_cons.mpr ⟨cv900 hg, (List.forall_mem_cons.mpr ⟨cv774 hg, (List.forall_mem_cons.mpr ⟨cv901 hg, (List.forall_mem_cons.mpr ⟨cv848 hg, (List.forall_mem_cons.mpr ⟨cv852 hg, (List.forall_mem_cons.mpr ⟨cv731 hg, (List.forall_mem_cons.mpr ⟨cv735 hg, (List.forall_mem_cons.mpr ⟨cv809 hg, (List.forall_mem_cons.mpr ⟨cv813 hg, (List.forall_mem_cons.mpr ⟨cv887 hg, (List.forall_mem_cons.mpr ⟨cv891 hg, (List.forall_mem_cons.mpr ⟨cv892 hg, (List.forall_mem_cons.mpr ⟨cv893 hg, (List.forall_mem_cons.mpr ⟨cv894 hg, (List.forall_mem_cons.mpr ⟨cv895 hg, (fun _ h => absurd h List.not_mem_nil)⟩)⟩)⟩)⟩)⟩)⟩)⟩)⟩)⟩)⟩)⟩)⟩)⟩)⟩)⟩)⟩)⟩)⟩)⟩)⟩)
/-- LotBeliefs.century -/
def ct1604 : sxCt := (148, 6, (4, [(1, .negSucc 2147483647, .ofNat 2147483647), (2, .negSucc 2147483647, .ofNat 2147483647), (3, .negSucc 2147483647, .ofNat 2147483647)], [], [(0, .inl 0), (1, .inr (false, (1, .ofNat 0))), (2, .inr (false, (2, .ofNat 0))), (3, .inr (false, (3, .ofNat 0)))], [], [], [], []), [(21, 0), (22, 0), (25, 0), (26, 0), (30, 0), (31, 0), (32, 1), (32, 2), (32, 3), (32, 4), (32, 9), (32, 11), (32, 12), (33000037, 0)], [
  (5, [(1, .ofNat 0, .ofNat 11), (3, .ofNat 1, .ofNat 60), (4, .negSucc 2147483647, .ofNat 2147483647)], [], [], [.inr (false, (4, .ofNat 0))], [], [], [])], [
  (0, (5, [(4, .negSucc 2147483647, .ofNat 2147483647)], [], [], [], [(30, (0, .ofNat 0), .inr (false, (4, .ofNat 0)))], [], [])), 
  (1, (5, [(1, .ofNat 0, .ofNat 11), (4, .negSucc 2147483647, .ofNat 2147483647)], [], [], [], [(30, (0, .ofNat 1), .inr (false, (4, .ofNat 0)))], [], []))], 1, 6)
def cu1604 : List sxCu := [
  (16, (6, [(1, .ofNat 0, .ofNat 11), (2, .negSucc 2147483647, .ofNat 2147483647), (3, .ofNat 1, .ofNat 60), (4, .negSucc 2147483647, .ofNat 2147483647), (5, .ofNat 0, .ofNat 63)], [], [(0, .inl 0), (1, .inr (false, (1, .ofNat 0))), (2, .inr (false, (2, .ofNat 0))), (3, .inr (false, (3, .ofNat 0))), (4, .inr (false, (4, .ofNat 0))), (5, .inr (false, (5, .ofNat 0)))], [], [], [], []), ((0, 5, .ofNat 63), (0, 0, .ofNat 0), (0, 0, .ofNat 0)), 0, 0)]
set_option maxRecDepth 1000000 in
theorem cv1604 {gh : sxGh} (hg : sxGd sxKw gh) : sxCtV sxKw gh ct1604 := sxMeB_ok (cts := [ct627, ct1475]) (cuts := cu1604) (sp := []) 365 sorry hg (by decide) (by decide) (List.forall_mem_cons.mpr ⟨cv627 hg, (List.forall_mem_cons.mpr ⟨cv1475 hg, (fun _ h => absurd h List.not_mem_nil)⟩)⟩)
/-- LotBeliefs.known -/
def ct1608 : sxCt := (159, 3, (3, [(1, .negSucc 2147483647, .ofNat 2147483647), (2, .negSucc 2147483647, .ofNat 2147483647)], [], [(0, .inl 0), (1, .inr (false, (1, .ofNat 0))), (2, .inr (false, (2, .ofNat 0)))], [], [], [], []), [(30, 0)], [
  (4, [(1, .ofNat 0, .ofNat 5), (2, .ofNat 0, .ofNat 51), (3, .negSucc 0, .ofNat 2)], [], [], [.inr (false, (3, .ofNat 0))], [], [], [])], [
  (1, (4, [(3, .negSucc 2147483647, .ofNat 2147483647)], [], [], [], [(30, (0, .ofNat 1), .inr (false, (3, .ofNat 0)))], [], []))], 1, 6)
def cu1608 : List sxCu := []
set_option maxRecDepth 1000000 in
theorem cv1608 {gh : sxGh} (hg : sxGd sxKw gh) : sxCtV sxKw gh ct1608 := sxMeB_ok (cts := []) (cuts := cu1608) (sp := []) 952 sorry hg (by decide) (by decide) (fun _ h => absurd h List.not_mem_nil)
/-- LotBeliefsModel.known -/
def ct1609 : sxCt := (306, 2, (3, [(1, .negSucc 2147483647, .ofNat 2147483647), (2, .negSucc 2147483647, .ofNat 2147483647)], [], [(0, .inl 78), (1, .inr (false, (1, .ofNat 0))), (2, .inr (false, (2, .ofNat 0)))], [], [], [], []), [(78, 1), (80, 0)], [
  (5, [(3, .negSucc 0, .ofNat 2), (4, .ofNat 0, .ofNat 1)], [(4, 3, .ofNat 1)], [], [.inr (false, (3, .ofNat 0))], [(78, (0, .ofNat 0), .inr (false, (4, .ofNat 0)))], [], [])], [], 0, 0)
def cu1609 : List sxCu := []
set_option maxRecDepth 1000000 in
theorem cv1609 {gh : sxGh} (hg : sxGd sxKw gh) : sxCtV sxKw gh ct1609 := sxMeB_ok (cts := [ct1190]) (cuts := cu1609) (sp := []) 333 sorry hg (by decide) (by decide) (List.forall_mem_cons.mpr ⟨cv1190 hg, (fun _ h => absurd h List.not_mem_nil)⟩)
/-- LotBeliefsModel.known -/
def ct1610 : sxCt := (306, 2, (3, [(1, .ofNat 0, .ofNat 5), (2, .ofNat 0, .ofNat 51)], [], [(0, .inl 78), (1, .inr (false, (1, .ofNat 0))), (2, .inr (false, (2, .ofNat 0)))], [], [], [], []), [(78, 1), (80, 0)], [
  (5, [(3, .negSucc 0, .ofNat 2), (4, .ofNat 0, .ofNat 1)], [(4, 3, .ofNat 1)], [], [.inr (false, (3, .ofNat 0))], [(78, (0, .ofNat 0), .inr (false, (4, .ofNat 0)))], [], [])], [], 0, 0)
def cu1610 : List sxCu := []
set_option maxRecDepth 1000000 in
theorem cv1610 {gh : sxGh} (hg : sxGd sxKw gh) : sxCtV sxKw gh ct1610 := sxMeB_ok (cts := [ct1190]) (cuts := cu1610) (sp := []) 232 sorry hg (by decide) (by decide) (List.forall_mem_cons.mpr ⟨cv1190 hg, (fun _ h => absurd h List.not_mem_nil)⟩)
/-- LotBeliefsModel.atomOf -/
def ct1611 : sxCt := (216, 0, (2, [(1, .ofNat 0, .ofNat 3)], [], [(0, .inr (false, (0, .ofNat 0))), (1, .inr (false, (1, .ofNat 0)))], [], [], [], []), [], [
  (3, [(2, .ofNat 0, .ofNat 255)], [], [], [.inr (true, (2, .ofNat 0))], [], [], [])], [], 0, 0)
def cu1611 : List sxCu := []
set_option maxRecDepth 1000000 in
theorem cv1611 {gh : sxGh} (hg : sxGd sxKw gh) : sxCtV sxKw gh ct1611 := sxMeB_ok (cts := []) (cuts := cu1611) (sp := []) 229 sorry hg (by decide) (by decide) (fun _ h => absurd h List.not_mem_nil)
/-- LotBeliefsModel.atomOf -/
def ct1612 : sxCt := (216, 0, (2, [(1, .ofNat 0, .ofNat 3)], [], [(0, .inr (false, (0, .ofNat 1))), (1, .inr (false, (1, .ofNat 0)))], [], [], [], []), [], [
  (3, [(2, .ofNat 0, .ofNat 255)], [], [], [.inr (true, (2, .ofNat 0))], [], [], [])], [], 0, 0)
def cu1612 : List sxCu := []
set_option maxRecDepth 1000000 in
theorem cv1612 {gh : sxGh} (hg : sxGd sxKw gh) : sxCtV sxKw gh ct1612 := sxMeB_ok (cts := []) (cuts := cu1612) (sp := []) 229 sorry hg (by decide) (by decide) (fun _ h => absurd h List.not_mem_nil)
/-- LotBeliefsModel.atomOf -/
def ct1613 : sxCt := (216, 0, (1, [], [], [(0, .inr (false, (0, .ofNat 2))), (1, .inr (false, (0, .ofNat 3)))], [], [], [], []), [], [
  (2, [(1, .ofNat 0, .ofNat 255)], [], [], [.inr (true, (1, .ofNat 0))], [], [], [])], [], 0, 0)
def cu1613 : List sxCu := []
set_option maxRecDepth 1000000 in
theorem cv1613 {gh : sxGh} (hg : sxGd sxKw gh) : sxCtV sxKw gh ct1613 := sxMeB_ok (cts := []) (cuts := cu1613) (sp := []) 215 sorry hg (by decide) (by decide) (fun _ h => absurd h List.not_mem_nil)
/-- LotBeliefsModel.laysPlain -/
def ct1614 : sxCt := (318, 1, (2, [(1, .ofNat 0, .ofNat 3)], [], [(0, .inl 78)], [], [(82, (0, .ofNat 0), .inr (false, (1, .ofNat 0)))], [], []), [(577, 0)], [
  (2, [], [], [], [], [(82, (0, .ofNat 0), .inr (false, (1, .ofNat 0)))], [], [])], [], 0, 0)
def cu1614 : List sxCu := [
  (134, (6, [(1, .ofNat 0, .ofNat 3), (2, .ofNat 1, .ofNat 255), (3, .ofNat 2, .ofNat 39), (4, .ofNat 0, .ofNat 255), (5, .ofNat 0, .ofNat 256)], [], [(0, .inl 78), (1, .inr (false, (2, .ofNat 0))), (2, .inr (false, (3, .ofNat 0))), (3, .inr (false, (4, .ofNat 0))), (4, .inr (false, (5, .ofNat 0)))], [], [(78, (0, .ofNat 12), .inl 82), (78, (0, .ofNat 61), .inl 577), (82, (0, .ofNat 0), .inr (false, (1, .ofNat 0)))], [], []), ((0, 3, .ofNat 40), (0, 4, .ofNat 256), (0, 5, .ofNat 256)), 0, 0), 
  (15, (4, [(1, .ofNat 0, .ofNat 3), (2, .ofNat 1, .ofNat 255), (3, .ofNat 0, .ofNat 256)], [], [(0, .inl 78), (1, .inr (false, (2, .ofNat 0))), (2, .inr (false, (3, .ofNat 0)))], [], [(78, (0, .ofNat 12), .inl 82), (82, (0, .ofNat 0), .inr (false, (1, .ofNat 0)))], [], []), ((0, 3, .ofNat 295), (0, 0, .ofNat 0), (0, 0, .ofNat 0)), 0, 0), 
  (72, (4, [(1, .ofNat 0, .ofNat 3), (2, .ofNat 1, .ofNat 255), (3, .ofNat 2, .ofNat 40)], [], [(0, .inl 78), (1, .inr (false, (2, .ofNat 0))), (2, .inr (false, (3, .ofNat 0)))], [], [(78, (0, .ofNat 12), .inl 82), (82, (0, .ofNat 0), .inr (false, (1, .ofNat 0)))], [], []), ((0, 3, .ofNat 40), (0, 0, .ofNat 257), (0, 0, .ofNat 0)), 0, 0), 
  (80, (5, [(1, .ofNat 0, .ofNat 3), (2, .ofNat 1, .ofNat 255), (3, .ofNat 2, .ofNat 39), (4, .ofNat 0, .ofNat 256)], [], [(0, .inl 78), (1, .inr (false, (2, .ofNat 0))), (2, .inr (false, (3, .ofNat 0))), (3, .inr (false, (4, .ofNat 0)))], [], [(78, (0, .ofNat 12), .inl 82), (82, (0, .ofNat 0), .inr (false, (1, .ofNat 0)))], [], []), ((0, 3, .ofNat 40), (0, 4, .ofNat 256), (0, 0, .ofNat 257)), 0, 0)]
set_option maxRecDepth 1000000 in
theorem cv1614 {gh : sxGh} (hg : sxGd sxKw gh) : sxCtV sxKw gh ct1614 := sxMeB_ok (cts := [ct1613, ct1611, ct1612]) (cuts := cu1614) (sp := [(0, 82, 0)]) 372 sorry hg (by decide) (by decide) (List.forall_mem_cons.mpr ⟨cv1613 hg, (List.forall_mem_cons.mpr ⟨cv1611 hg, (List.forall_mem_cons.mpr ⟨cv1612 hg, (fun _ h => absurd h List.not_mem_nil)⟩)⟩)⟩)
/-- LotBeliefsModel.plain -/
def ct1615 : sxCt := (320, 2, (2, [(1, .negSucc 2147483647, .ofNat 2147483647)], [], [(0, .inl 78), (1, .inr (false, (1, .ofNat 0)))], [], [(579, (0, .ofNat 3), .inr (false, (0, .ofNat 1)))], [], []), [(78, 1), (80, 0), (577, 0)], [
  (4, [(2, .ofNat 0, .ofNat 40), (3, .ofNat 0, .ofNat 2)], [], [], [.inr (false, (2, .ofNat 0))], [(78, (0, .ofNat 0), .inr (false, (3, .ofNat 0))), (579, (0, .ofNat 3), .inr (false, (0, .ofNat 1)))], [], [])], [], 0, 0)
def cu1615 : List sxCu := []
set_option maxRecDepth 1000000 in
theorem cv1615 {gh : sxGh} (hg : sxGd sxKw gh) : sxCtV sxKw gh ct1615 := sxMeB_ok (cts := [ct1614]) (cuts := cu1615) (sp := [(57, 579, 6)]) 228 sorry hg (by decide) (by decide) (List.forall_mem_cons.mpr ⟨cv1614 hg, (fun _ h => absurd h List.not_mem_nil)⟩)
/-- LotBeliefsModel.plain -/
def ct1616 : sxCt := (320, 2, (2, [(1, .ofNat 0, .ofNat 11)], [], [(0, .inl 78), (1, .inr (false, (1, .ofNat 0)))], [], [(579, (0, .ofNat 3), .inr (false, (0, .ofNat 1)))], [], []), [(78, 1), (80, 0), (577, 0)], [
  (4, [(2, .ofNat 0, .ofNat 40), (3, .ofNat 0, .ofNat 2)], [], [], [.inr (false, (2, .ofNat 0))], [(78, (0, .ofNat 0), .inr (false, (3, .ofNat 0))), (579, (0, .ofNat 3), .inr (false, (0, .ofNat 1)))], [], [])], [], 0, 0)
def cu1616 : List sxCu := []
set_option maxRecDepth 1000000 in
theorem cv1616 {gh : sxGh} (hg : sxGd sxKw gh) : sxCtV sxKw gh ct1616 := sxMeB_ok (cts := [ct1614]) (cuts := cu1616) (sp := [(57, 579, 6)]) 194 sorry hg (by decide) (by decide) (List.forall_mem_cons.mpr ⟨cv1614 hg, (fun _ h => absurd h List.not_mem_nil)⟩)
/-- LotBeliefs.Shortest.find -/
def ct1617 : sxCt := (54, 0, (3, [(1, .ofNat 0, .ofNat 255), (2, .ofNat 0, .ofNat 1)], [], [(0, .inl 48), (1, .inr (false, (1, .ofNat 0))), (2, .inr (false, (2, .ofNat 0)))], [], [], [], []), [(48, 5), (49, 0), (50, 0)], [
  (4, [(3, .ofNat 0, .ofNat 256)], [], [], [], [(48, (0, .ofNat 4), .inr (false, (3, .ofNat 0)))], [], [])], [], 0, 0)
def cu1617 : List sxCu := []
set_option maxRecDepth 1000000 in
theorem cv1617 {gh : sxGh} (hg : sxGd sxKw gh) : sxCtV sxKw gh ct1617 := sxMeB_ok (cts := []) (cuts := cu1617) (sp := []) 107 sorry hg (by decide) (by decide) (fun _ h => absurd h List.not_mem_nil)
/-- LotBeliefs.Shortest.find -/
def ct1618 : sxCt := (54, 0, (3, [(1, .ofNat 0, .ofNat 255), (2, .ofNat 2, .ofNat 64)], [], [(0, .inl 48), (1, .inr (false, (1, .ofNat 0))), (2, .inr (false, (2, .ofNat 0)))], [], [], [], []), [(48, 5), (49, 0), (50, 0)], [
  (4, [(3, .ofNat 0, .ofNat 256)], [], [], [], [(48, (0, .ofNat 4), .inr (false, (3, .ofNat 0)))], [], [])], [], 0, 0)
def cu1618 : List sxCu := []
set_option maxRecDepth 1000000 in
theorem cv1618 {gh : sxGh} (hg : sxGd sxKw gh) : sxCtV sxKw gh ct1618 := sxMeB_ok (cts := []) (cuts := cu1618) (sp := []) 107 sorry hg (by decide) (by decide) (fun _ h => absurd h List.not_mem_nil)
/-- LotBeliefs.Shortest.negate -/
def ct1619 : sxCt := (55, 1, (3, [(1, .ofNat 2, .ofNat 64), (2, .ofNat 0, .ofNat 255)], [], [(0, .inl 48), (1, .inr (false, (1, .ofNat 0))), (2, .inr (false, (2, .ofNat 0)))], [], [], [], []), [(48, 5), (49, 0), (50, 0)], [
  (3, [], [], [], [], [], [], [])], [], 0, 0)
def cu1619 : List sxCu := [
  (9, (4, [(1, .ofNat 2, .ofNat 64), (2, .ofNat 0, .ofNat 255), (3, .ofNat 0, .ofNat 256)], [], [(0, .inl 48), (1, .inr (false, (1, .ofNat 0))), (2, .inr (false, (2, .ofNat 0))), (3, .inr (false, (3, .ofNat 0)))], [], [(48, (0, .ofNat 3), .inl 51)], [], []), ((0, 3, .ofNat 256), (0, 0, .ofNat 0), (0, 0, .ofNat 0)), 0, 0)]
set_option maxRecDepth 1000000 in
theorem cv1619 {gh : sxGh} (hg : sxGd sxKw gh) : sxCtV sxKw gh ct1619 := sxMeB_ok (cts := [ct1618]) (cuts := cu1619) (sp := []) 88 sorry hg (by decide) (by decide) (List.forall_mem_cons.mpr ⟨cv1618 hg, (fun _ h => absurd h List.not_mem_nil)⟩)
/-- LotBeliefs.Shortest.join -/
def ct1768 : sxCt := (56, 1, (4, [(1, .ofNat 0, .ofNat 1), (2, .ofNat 1, .ofNat 64), (3, .ofNat 2, .ofNat 64)], [], [(0, .inl 48), (1, .inr (false, (1, .ofNat 0))), (2, .inr (false, (2, .ofNat 0))), (3, .inr (false, (3, .ofNat 0)))], [], [], [], []), [(48, 5), (49, 0), (50, 0)], [
  (4, [], [], [], [], [], [], [])], [], 0, 0)
def cu1768 : List sxCu := [
  (29, (6, [(1, .ofNat 0, .ofNat 1), (2, .ofNat 1, .ofNat 64), (3, .ofNat 2, .ofNat 64), (4, .ofNat 0, .ofNat 255), (5, .ofNat 0, .ofNat 256)], [], [(0, .inl 48), (1, .inr (false, (1, .ofNat 0))), (2, .inr (false, (2, .ofNat 0))), (3, .inr (false, (3, .ofNat 0))), (4, .inr (false, (4, .ofNat 0))), (5, .inr (false, (5, .ofNat 0)))], [], [(48, (0, .ofNat 3), .inl 51)], [], []), ((0, 4, .ofNat 256), (0, 5, .ofNat 256), (0, 0, .ofNat 0)), 0, 0), 
  (8, (5, [(1, .ofNat 0, .ofNat 1), (2, .ofNat 1, .ofNat 64), (3, .ofNat 2, .ofNat 64), (4, .ofNat 0, .ofNat 256)], [], [(0, .inl 48), (1, .inr (false, (1, .ofNat 0))), (2, .inr (false, (2, .ofNat 0))), (3, .inr (false, (3, .ofNat 0))), (4, .inr (false, (4, .ofNat 0)))], [], [(48, (0, .ofNat 3), .inl 51)], [], []), ((0, 4, .ofNat 256), (0, 0, .ofNat 257), (0, 0, .ofNat 0)), 0, 0)]
set_option maxRecDepth 1000000 in
theorem cv1768 {gh : sxGh} (hg : sxGd sxKw gh) : sxCtV sxKw gh ct1768 := sxMeB_ok (cts := [ct1618]) (cuts := cu1768) (sp := []) 117 sorry hg (by decide) (by decide) (List.forall_mem_cons.mpr ⟨cv1618 hg, (fun _ h => absurd h List.not_mem_nil)⟩)
/-- LotBeliefs.Shortest.join -/
def ct1770 : sxCt := (56, 1, (4, [(1, .ofNat 0, .ofNat 3), (2, .ofNat 0, .ofNat 60), (3, .ofNat 2, .ofNat 64)], [], [(0, .inl 48), (1, .inr (false, (1, .ofNat 0))), (2, .inr (false, (2, .ofNat 0))), (3, .inr (false, (3, .ofNat 0)))], [], [], [], []), [(48, 5), (49, 0), (50, 0)], [
  (4, [], [], [], [], [], [], [])], [], 0, 0)
def cu1770 : List sxCu := [
  (29, (6, [(1, .ofNat 0, .ofNat 3), (2, .ofNat 0, .ofNat 60), (3, .ofNat 2, .ofNat 64), (4, .ofNat 0, .ofNat 255), (5, .ofNat 0, .ofNat 256)], [], [(0, .inl 48), (1, .inr (false, (1, .ofNat 0))), (2, .inr (false, (2, .ofNat 0))), (3, .inr (false, (3, .ofNat 0))), (4, .inr (false, (4, .ofNat 0))), (5, .inr (false, (5, .ofNat 0)))], [], [(48, (0, .ofNat 3), .inl 51)], [], []), ((0, 4, .ofNat 256), (0, 5, .ofNat 256), (0, 0, .ofNat 0)), 0, 0), 
  (8, (5, [(1, .ofNat 0, .ofNat 3), (2, .ofNat 0, .ofNat 60), (3, .ofNat 2, .ofNat 64), (4, .ofNat 0, .ofNat 256)], [], [(0, .inl 48), (1, .inr (false, (1, .ofNat 0))), (2, .inr (false, (2, .ofNat 0))), (3, .inr (false, (3, .ofNat 0))), (4, .inr (false, (4, .ofNat 0)))], [], [(48, (0, .ofNat 3), .inl 51)], [], []), ((0, 4, .ofNat 256), (0, 0, .ofNat 257), (0, 0, .ofNat 0)), 0, 0)]
set_option maxRecDepth 1000000 in
theorem cv1770 {gh : sxGh} (hg : sxGd sxKw gh) : sxCtV sxKw gh ct1770 := sxMeB_ok (cts := [ct1618]) (cuts := cu1770) (sp := []) 117 sorry hg (by decide) (by decide) (List.forall_mem_cons.mpr ⟨cv1618 hg, (fun _ h => absurd h List.not_mem_nil)⟩)
/-- LotBeliefs.Shortest.join -/
def ct1771 : sxCt := (56, 1, (4, [(1, .ofNat 0, .ofNat 4), (2, .ofNat 0, .ofNat 60), (3, .ofNat 2, .ofNat 64)], [], [(0, .inl 48), (1, .inr (false, (1, .ofNat 0))), (2, .inr (false, (2, .ofNat 0))), (3, .inr (false, (3, .ofNat 0)))], [], [], [], []), [(48, 5), (49, 0), (50, 0)], [
  (4, [], [], [], [], [], [], [])], [], 0, 0)
def cu1771 : List sxCu := [
  (29, (6, [(1, .ofNat 0, .ofNat 4), (2, .ofNat 0, .ofNat 60), (3, .ofNat 2, .ofNat 64), (4, .ofNat 0, .ofNat 255), (5, .ofNat 0, .ofNat 256)], [], [(0, .inl 48), (1, .inr (false, (1, .ofNat 0))), (2, .inr (false, (2, .ofNat 0))), (3, .inr (false, (3, .ofNat 0))), (4, .inr (false, (4, .ofNat 0))), (5, .inr (false, (5, .ofNat 0)))], [], [(48, (0, .ofNat 3), .inl 51)], [], []), ((0, 4, .ofNat 256), (0, 5, .ofNat 256), (0, 0, .ofNat 0)), 0, 0), 
  (8, (5, [(1, .ofNat 0, .ofNat 4), (2, .ofNat 0, .ofNat 60), (3, .ofNat 2, .ofNat 64), (4, .ofNat 0, .ofNat 256)], [], [(0, .inl 48), (1, .inr (false, (1, .ofNat 0))), (2, .inr (false, (2, .ofNat 0))), (3, .inr (false, (3, .ofNat 0))), (4, .inr (false, (4, .ofNat 0)))], [], [(48, (0, .ofNat 3), .inl 51)], [], []), ((0, 4, .ofNat 256), (0, 0, .ofNat 257), (0, 0, .ofNat 0)), 0, 0)]
set_option maxRecDepth 1000000 in
theorem cv1771 {gh : sxGh} (hg : sxGd sxKw gh) : sxCtV sxKw gh ct1771 := sxMeB_ok (cts := [ct1618]) (cuts := cu1771) (sp := []) 117 sorry hg (by decide) (by decide) (List.forall_mem_cons.mpr ⟨cv1618 hg, (fun _ h => absurd h List.not_mem_nil)⟩)
/-- LotBeliefs.Shortest.join -/
def ct1772 : sxCt := (56, 1, (4, [(1, .ofNat 0, .ofNat 5), (2, .ofNat 0, .ofNat 60), (3, .ofNat 2, .ofNat 64)], [], [(0, .inl 48), (1, .inr (false, (1, .ofNat 0))), (2, .inr (false, (2, .ofNat 0))), (3, .inr (false, (3, .ofNat 0)))], [], [], [], []), [(48, 5), (49, 0), (50, 0)], [
  (4, [], [], [], [], [], [], [])], [], 0, 0)
def cu1772 : List sxCu := [
  (29, (6, [(1, .ofNat 0, .ofNat 5), (2, .ofNat 0, .ofNat 60), (3, .ofNat 2, .ofNat 64), (4, .ofNat 0, .ofNat 255), (5, .ofNat 0, .ofNat 256)], [], [(0, .inl 48), (1, .inr (false, (1, .ofNat 0))), (2, .inr (false, (2, .ofNat 0))), (3, .inr (false, (3, .ofNat 0))), (4, .inr (false, (4, .ofNat 0))), (5, .inr (false, (5, .ofNat 0)))], [], [(48, (0, .ofNat 3), .inl 51)], [], []), ((0, 4, .ofNat 256), (0, 5, .ofNat 256), (0, 0, .ofNat 0)), 0, 0), 
  (8, (5, [(1, .ofNat 0, .ofNat 5), (2, .ofNat 0, .ofNat 60), (3, .ofNat 2, .ofNat 64), (4, .ofNat 0, .ofNat 256)], [], [(0, .inl 48), (1, .inr (false, (1, .ofNat 0))), (2, .inr (false, (2, .ofNat 0))), (3, .inr (false, (3, .ofNat 0))), (4, .inr (false, (4, .ofNat 0)))], [], [(48, (0, .ofNat 3), .inl 51)], [], []), ((0, 4, .ofNat 256), (0, 0, .ofNat 257), (0, 0, .ofNat 0)), 0, 0)]
set_option maxRecDepth 1000000 in
theorem cv1772 {gh : sxGh} (hg : sxGd sxKw gh) : sxCtV sxKw gh ct1772 := sxMeB_ok (cts := [ct1618]) (cuts := cu1772) (sp := []) 117 sorry hg (by decide) (by decide) (List.forall_mem_cons.mpr ⟨cv1618 hg, (fun _ h => absurd h List.not_mem_nil)⟩)
/-- LotBeliefs.Shortest.join -/
def ct1773 : sxCt := (56, 1, (4, [(1, .ofNat 0, .ofNat 6), (2, .ofNat 0, .ofNat 60), (3, .ofNat 2, .ofNat 64)], [], [(0, .inl 48), (1, .inr (false, (1, .ofNat 0))), (2, .inr (false, (2, .ofNat 0))), (3, .inr (false, (3, .ofNat 0)))], [], [], [], []), [(48, 5), (49, 0), (50, 0)], [
  (4, [], [], [], [], [], [], [])], [], 0, 0)
def cu1773 : List sxCu := [
  (29, (6, [(1, .ofNat 0, .ofNat 6), (2, .ofNat 0, .ofNat 60), (3, .ofNat 2, .ofNat 64), (4, .ofNat 0, .ofNat 255), (5, .ofNat 0, .ofNat 256)], [], [(0, .inl 48), (1, .inr (false, (1, .ofNat 0))), (2, .inr (false, (2, .ofNat 0))), (3, .inr (false, (3, .ofNat 0))), (4, .inr (false, (4, .ofNat 0))), (5, .inr (false, (5, .ofNat 0)))], [], [(48, (0, .ofNat 3), .inl 51)], [], []), ((0, 4, .ofNat 256), (0, 5, .ofNat 256), (0, 0, .ofNat 0)), 0, 0), 
  (8, (5, [(1, .ofNat 0, .ofNat 6), (2, .ofNat 0, .ofNat 60), (3, .ofNat 2, .ofNat 64), (4, .ofNat 0, .ofNat 256)], [], [(0, .inl 48), (1, .inr (false, (1, .ofNat 0))), (2, .inr (false, (2, .ofNat 0))), (3, .inr (false, (3, .ofNat 0))), (4, .inr (false, (4, .ofNat 0)))], [], [(48, (0, .ofNat 3), .inl 51)], [], []), ((0, 4, .ofNat 256), (0, 0, .ofNat 257), (0, 0, .ofNat 0)), 0, 0)]
set_option maxRecDepth 1000000 in
theorem cv1773 {gh : sxGh} (hg : sxGd sxKw gh) : sxCtV sxKw gh ct1773 := sxMeB_ok (cts := [ct1618]) (cuts := cu1773) (sp := []) 117 sorry hg (by decide) (by decide) (List.forall_mem_cons.mpr ⟨cv1618 hg, (fun _ h => absurd h List.not_mem_nil)⟩)
/-- LotBeliefs.Shortest.join -/
def ct1774 : sxCt := (56, 1, (4, [(1, .ofNat 0, .ofNat 7), (2, .ofNat 0, .ofNat 60), (3, .ofNat 2, .ofNat 64)], [], [(0, .inl 48), (1, .inr (false, (1, .ofNat 0))), (2, .inr (false, (2, .ofNat 0))), (3, .inr (false, (3, .ofNat 0)))], [], [], [], []), [(48, 5), (49, 0), (50, 0)], [
  (4, [], [], [], [], [], [], [])], [], 0, 0)
def cu1774 : List sxCu := [
  (29, (6, [(1, .ofNat 0, .ofNat 7), (2, .ofNat 0, .ofNat 60), (3, .ofNat 2, .ofNat 64), (4, .ofNat 0, .ofNat 255), (5, .ofNat 0, .ofNat 256)], [], [(0, .inl 48), (1, .inr (false, (1, .ofNat 0))), (2, .inr (false, (2, .ofNat 0))), (3, .inr (false, (3, .ofNat 0))), (4, .inr (false, (4, .ofNat 0))), (5, .inr (false, (5, .ofNat 0)))], [], [(48, (0, .ofNat 3), .inl 51)], [], []), ((0, 4, .ofNat 256), (0, 5, .ofNat 256), (0, 0, .ofNat 0)), 0, 0), 
  (8, (5, [(1, .ofNat 0, .ofNat 7), (2, .ofNat 0, .ofNat 60), (3, .ofNat 2, .ofNat 64), (4, .ofNat 0, .ofNat 256)], [], [(0, .inl 48), (1, .inr (false, (1, .ofNat 0))), (2, .inr (false, (2, .ofNat 0))), (3, .inr (false, (3, .ofNat 0))), (4, .inr (false, (4, .ofNat 0)))], [], [(48, (0, .ofNat 3), .inl 51)], [], []), ((0, 4, .ofNat 256), (0, 0, .ofNat 257), (0, 0, .ofNat 0)), 0, 0)]
set_option maxRecDepth 1000000 in
theorem cv1774 {gh : sxGh} (hg : sxGd sxKw gh) : sxCtV sxKw gh ct1774 := sxMeB_ok (cts := [ct1618]) (cuts := cu1774) (sp := []) 117 sorry hg (by decide) (by decide) (List.forall_mem_cons.mpr ⟨cv1618 hg, (fun _ h => absurd h List.not_mem_nil)⟩)
/-- LotBeliefs.Shortest.join -/
def ct1775 : sxCt := (56, 1, (4, [(1, .ofNat 0, .ofNat 9), (2, .ofNat 0, .ofNat 60), (3, .ofNat 2, .ofNat 64)], [], [(0, .inl 48), (1, .inr (false, (1, .ofNat 0))), (2, .inr (false, (2, .ofNat 0))), (3, .inr (false, (3, .ofNat 0)))], [], [], [], []), [(48, 5), (49, 0), (50, 0)], [
  (4, [], [], [], [], [], [], [])], [], 0, 0)
def cu1775 : List sxCu := [
  (29, (6, [(1, .ofNat 0, .ofNat 9), (2, .ofNat 0, .ofNat 60), (3, .ofNat 2, .ofNat 64), (4, .ofNat 0, .ofNat 255), (5, .ofNat 0, .ofNat 256)], [], [(0, .inl 48), (1, .inr (false, (1, .ofNat 0))), (2, .inr (false, (2, .ofNat 0))), (3, .inr (false, (3, .ofNat 0))), (4, .inr (false, (4, .ofNat 0))), (5, .inr (false, (5, .ofNat 0)))], [], [(48, (0, .ofNat 3), .inl 51)], [], []), ((0, 4, .ofNat 256), (0, 5, .ofNat 256), (0, 0, .ofNat 0)), 0, 0), 
  (8, (5, [(1, .ofNat 0, .ofNat 9), (2, .ofNat 0, .ofNat 60), (3, .ofNat 2, .ofNat 64), (4, .ofNat 0, .ofNat 256)], [], [(0, .inl 48), (1, .inr (false, (1, .ofNat 0))), (2, .inr (false, (2, .ofNat 0))), (3, .inr (false, (3, .ofNat 0))), (4, .inr (false, (4, .ofNat 0)))], [], [(48, (0, .ofNat 3), .inl 51)], [], []), ((0, 4, .ofNat 256), (0, 0, .ofNat 257), (0, 0, .ofNat 0)), 0, 0)]
set_option maxRecDepth 1000000 in
theorem cv1775 {gh : sxGh} (hg : sxGd sxKw gh) : sxCtV sxKw gh ct1775 := sxMeB_ok (cts := [ct1618]) (cuts := cu1775) (sp := []) 117 sorry hg (by decide) (by decide) (List.forall_mem_cons.mpr ⟨cv1618 hg, (fun _ h => absurd h List.not_mem_nil)⟩)
/-- LotBeliefs.Shortest.join -/
def ct1778 : sxCt := (56, 1, (4, [(1, .ofNat 0, .ofNat 12), (2, .ofNat 0, .ofNat 51), (3, .ofNat 2, .ofNat 64)], [], [(0, .inl 48), (1, .inr (false, (1, .ofNat 0))), (2, .inr (false, (2, .ofNat 0))), (3, .inr (false, (3, .ofNat 0)))], [], [], [], []), [(48, 5), (49, 0), (50, 0)], [
  (4, [], [], [], [], [], [], [])], [], 0, 0)
def cu1778 : List sxCu := [
  (29, (6, [(1, .ofNat 0, .ofNat 12), (2, .ofNat 0, .ofNat 51), (3, .ofNat 2, .ofNat 64), (4, .ofNat 0, .ofNat 255), (5, .ofNat 0, .ofNat 256)], [], [(0, .inl 48), (1, .inr (false, (1, .ofNat 0))), (2, .inr (false, (2, .ofNat 0))), (3, .inr (false, (3, .ofNat 0))), (4, .inr (false, (4, .ofNat 0))), (5, .inr (false, (5, .ofNat 0)))], [], [(48, (0, .ofNat 3), .inl 51)], [], []), ((0, 4, .ofNat 256), (0, 5, .ofNat 256), (0, 0, .ofNat 0)), 0, 0), 
  (8, (5, [(1, .ofNat 0, .ofNat 12), (2, .ofNat 0, .ofNat 51), (3, .ofNat 2, .ofNat 64), (4, .ofNat 0, .ofNat 256)], [], [(0, .inl 48), (1, .inr (false, (1, .ofNat 0))), (2, .inr (false, (2, .ofNat 0))), (3, .inr (false, (3, .ofNat 0))), (4, .inr (false, (4, .ofNat 0)))], [], [(48, (0, .ofNat 3), .inl 51)], [], []), ((0, 4, .ofNat 256), (0, 0, .ofNat 257), (0, 0, .ofNat 0)), 0, 0)]
set_option maxRecDepth 1000000 in
theorem cv1778 {gh : sxGh} (hg : sxGd sxKw gh) : sxCtV sxKw gh ct1778 := sxMeB_ok (cts := [ct1618]) (cuts := cu1778) (sp := []) 117 sorry hg (by decide) (by decide) (List.forall_mem_cons.mpr ⟨cv1618 hg, (fun _ h => absurd h List.not_mem_nil)⟩)
/-- LotBeliefs.Shortest.join -/
def ct1779 : sxCt := (56, 1, (4, [(1, .ofNat 0, .ofNat 15), (2, .ofNat 0, .ofNat 51), (3, .ofNat 2, .ofNat 64)], [], [(0, .inl 48), (1, .inr (false, (1, .ofNat 0))), (2, .inr (false, (2, .ofNat 0))), (3, .inr (false, (3, .ofNat 0)))], [], [], [], []), [(48, 5), (49, 0), (50, 0)], [
  (4, [], [], [], [], [], [], [])], [], 0, 0)
def cu1779 : List sxCu := [
  (29, (6, [(1, .ofNat 0, .ofNat 15), (2, .ofNat 0, .ofNat 51), (3, .ofNat 2, .ofNat 64), (4, .ofNat 0, .ofNat 255), (5, .ofNat 0, .ofNat 256)], [], [(0, .inl 48), (1, .inr (false, (1, .ofNat 0))), (2, .inr (false, (2, .ofNat 0))), (3, .inr (false, (3, .ofNat 0))), (4, .inr (false, (4, .ofNat 0))), (5, .inr (false, (5, .ofNat 0)))], [], [(48, (0, .ofNat 3), .inl 51)], [], []), ((0, 4, .ofNat 256), (0, 5, .ofNat 256), (0, 0, .ofNat 0)), 0, 0), 
  (8, (5, [(1, .ofNat 0, .ofNat 15), (2, .ofNat 0, .ofNat 51), (3, .ofNat 2, .ofNat 64), (4, .ofNat 0, .ofNat 256)], [], [(0, .inl 48), (1, .inr (false, (1, .ofNat 0))), (2, .inr (false, (2, .ofNat 0))), (3, .inr (false, (3, .ofNat 0))), (4, .inr (false, (4, .ofNat 0)))], [], [(48, (0, .ofNat 3), .inl 51)], [], []), ((0, 4, .ofNat 256), (0, 0, .ofNat 257), (0, 0, .ofNat 0)), 0, 0)]
set_option maxRecDepth 1000000 in
theorem cv1779 {gh : sxGh} (hg : sxGd sxKw gh) : sxCtV sxKw gh ct1779 := sxMeB_ok (cts := [ct1618]) (cuts := cu1779) (sp := []) 117 sorry hg (by decide) (by decide) (List.forall_mem_cons.mpr ⟨cv1618 hg, (fun _ h => absurd h List.not_mem_nil)⟩)
/-- LotBeliefs.Shortest.join -/
def ct1780 : sxCt := (56, 1, (4, [(1, .ofNat 0, .ofNat 16), (2, .ofNat 0, .ofNat 51), (3, .ofNat 2, .ofNat 64)], [], [(0, .inl 48), (1, .inr (false, (1, .ofNat 0))), (2, .inr (false, (2, .ofNat 0))), (3, .inr (false, (3, .ofNat 0)))], [], [], [], []), [(48, 5), (49, 0), (50, 0)], [
  (4, [], [], [], [], [], [], [])], [], 0, 0)
def cu1780 : List sxCu := [
  (29, (6, [(1, .ofNat 0, .ofNat 16), (2, .ofNat 0, .ofNat 51), (3, .ofNat 2, .ofNat 64), (4, .ofNat 0, .ofNat 255), (5, .ofNat 0, .ofNat 256)], [], [(0, .inl 48), (1, .inr (false, (1, .ofNat 0))), (2, .inr (false, (2, .ofNat 0))), (3, .inr (false, (3, .ofNat 0))), (4, .inr (false, (4, .ofNat 0))), (5, .inr (false, (5, .ofNat 0)))], [], [(48, (0, .ofNat 3), .inl 51)], [], []), ((0, 4, .ofNat 256), (0, 5, .ofNat 256), (0, 0, .ofNat 0)), 0, 0), 
  (8, (5, [(1, .ofNat 0, .ofNat 16), (2, .ofNat 0, .ofNat 51), (3, .ofNat 2, .ofNat 64), (4, .ofNat 0, .ofNat 256)], [], [(0, .inl 48), (1, .inr (false, (1, .ofNat 0))), (2, .inr (false, (2, .ofNat 0))), (3, .inr (false, (3, .ofNat 0))), (4, .inr (false, (4, .ofNat 0)))], [], [(48, (0, .ofNat 3), .inl 51)], [], []), ((0, 4, .ofNat 256), (0, 0, .ofNat 257), (0, 0, .ofNat 0)), 0, 0)]
set_option maxRecDepth 1000000 in
theorem cv1780 {gh : sxGh} (hg : sxGd sxKw gh) : sxCtV sxKw gh ct1780 := sxMeB_ok (cts := [ct1618]) (cuts := cu1780) (sp := []) 117 sorry hg (by decide) (by decide) (List.forall_mem_cons.mpr ⟨cv1618 hg, (fun _ h => absurd h List.not_mem_nil)⟩)
/-- LotBeliefs.Shortest.join -/
def ct1781 : sxCt := (56, 1, (4, [(1, .ofNat 0, .ofNat 17), (2, .ofNat 0, .ofNat 51), (3, .ofNat 2, .ofNat 64)], [], [(0, .inl 48), (1, .inr (false, (1, .ofNat 0))), (2, .inr (false, (2, .ofNat 0))), (3, .inr (false, (3, .ofNat 0)))], [], [], [], []), [(48, 5), (49, 0), (50, 0)], [
  (4, [], [], [], [], [], [], [])], [], 0, 0)
def cu1781 : List sxCu := [
  (29, (6, [(1, .ofNat 0, .ofNat 17), (2, .ofNat 0, .ofNat 51), (3, .ofNat 2, .ofNat 64), (4, .ofNat 0, .ofNat 255), (5, .ofNat 0, .ofNat 256)], [], [(0, .inl 48), (1, .inr (false, (1, .ofNat 0))), (2, .inr (false, (2, .ofNat 0))), (3, .inr (false, (3, .ofNat 0))), (4, .inr (false, (4, .ofNat 0))), (5, .inr (false, (5, .ofNat 0)))], [], [(48, (0, .ofNat 3), .inl 51)], [], []), ((0, 4, .ofNat 256), (0, 5, .ofNat 256), (0, 0, .ofNat 0)), 0, 0), 
  (8, (5, [(1, .ofNat 0, .ofNat 17), (2, .ofNat 0, .ofNat 51), (3, .ofNat 2, .ofNat 64), (4, .ofNat 0, .ofNat 256)], [], [(0, .inl 48), (1, .inr (false, (1, .ofNat 0))), (2, .inr (false, (2, .ofNat 0))), (3, .inr (false, (3, .ofNat 0))), (4, .inr (false, (4, .ofNat 0)))], [], [(48, (0, .ofNat 3), .inl 51)], [], []), ((0, 4, .ofNat 256), (0, 0, .ofNat 257), (0, 0, .ofNat 0)), 0, 0)]
set_option maxRecDepth 1000000 in
theorem cv1781 {gh : sxGh} (hg : sxGd sxKw gh) : sxCtV sxKw gh ct1781 := sxMeB_ok (cts := [ct1618]) (cuts := cu1781) (sp := []) 117 sorry hg (by decide) (by decide) (List.forall_mem_cons.mpr ⟨cv1618 hg, (fun _ h => absurd h List.not_mem_nil)⟩)
/-- LotBeliefs.Shortest.join -/
def ct1782 : sxCt := (56, 1, (4, [(1, .ofNat 0, .ofNat 39), (2, .ofNat 0, .ofNat 51), (3, .ofNat 2, .ofNat 64)], [], [(0, .inl 48), (1, .inr (false, (1, .ofNat 0))), (2, .inr (false, (2, .ofNat 0))), (3, .inr (false, (3, .ofNat 0)))], [], [], [], []), [(48, 5), (49, 0), (50, 0)], [
  (4, [], [], [], [], [], [], [])], [], 0, 0)
def cu1782 : List sxCu := [
  (29, (6, [(1, .ofNat 0, .ofNat 39), (2, .ofNat 0, .ofNat 51), (3, .ofNat 2, .ofNat 64), (4, .ofNat 0, .ofNat 255), (5, .ofNat 0, .ofNat 256)], [], [(0, .inl 48), (1, .inr (false, (1, .ofNat 0))), (2, .inr (false, (2, .ofNat 0))), (3, .inr (false, (3, .ofNat 0))), (4, .inr (false, (4, .ofNat 0))), (5, .inr (false, (5, .ofNat 0)))], [], [(48, (0, .ofNat 3), .inl 51)], [], []), ((0, 4, .ofNat 256), (0, 5, .ofNat 256), (0, 0, .ofNat 0)), 0, 0), 
  (8, (5, [(1, .ofNat 0, .ofNat 39), (2, .ofNat 0, .ofNat 51), (3, .ofNat 2, .ofNat 64), (4, .ofNat 0, .ofNat 256)], [], [(0, .inl 48), (1, .inr (false, (1, .ofNat 0))), (2, .inr (false, (2, .ofNat 0))), (3, .inr (false, (3, .ofNat 0))), (4, .inr (false, (4, .ofNat 0)))], [], [(48, (0, .ofNat 3), .inl 51)], [], []), ((0, 4, .ofNat 256), (0, 0, .ofNat 257), (0, 0, .ofNat 0)), 0, 0)]
set_option maxRecDepth 1000000 in
theorem cv1782 {gh : sxGh} (hg : sxGd sxKw gh) : sxCtV sxKw gh ct1782 := sxMeB_ok (cts := [ct1618]) (cuts := cu1782) (sp := []) 117 sorry hg (by decide) (by decide) (List.forall_mem_cons.mpr ⟨cv1618 hg, (fun _ h => absurd h List.not_mem_nil)⟩)
/-- LotBeliefs.Shortest.join -/
def ct1783 : sxCt := (56, 1, (4, [(1, .ofNat 0, .ofNat 39), (2, .ofNat 0, .ofNat 40), (3, .ofNat 2, .ofNat 64)], [], [(0, .inl 48), (1, .inr (false, (1, .ofNat 0))), (2, .inr (false, (2, .ofNat 0))), (3, .inr (false, (3, .ofNat 0)))], [], [], [], []), [(48, 5), (49, 0), (50, 0)], [
  (4, [], [], [], [], [], [], [])], [], 0, 0)
def cu1783 : List sxCu := [
  (29, (6, [(1, .ofNat 0, .ofNat 39), (2, .ofNat 0, .ofNat 40), (3, .ofNat 2, .ofNat 64), (4, .ofNat 0, .ofNat 255), (5, .ofNat 0, .ofNat 256)], [], [(0, .inl 48), (1, .inr (false, (1, .ofNat 0))), (2, .inr (false, (2, .ofNat 0))), (3, .inr (false, (3, .ofNat 0))), (4, .inr (false, (4, .ofNat 0))), (5, .inr (false, (5, .ofNat 0)))], [], [(48, (0, .ofNat 3), .inl 51)], [], []), ((0, 4, .ofNat 256), (0, 5, .ofNat 256), (0, 0, .ofNat 0)), 0, 0), 
  (8, (5, [(1, .ofNat 0, .ofNat 39), (2, .ofNat 0, .ofNat 40), (3, .ofNat 2, .ofNat 64), (4, .ofNat 0, .ofNat 256)], [], [(0, .inl 48), (1, .inr (false, (1, .ofNat 0))), (2, .inr (false, (2, .ofNat 0))), (3, .inr (false, (3, .ofNat 0))), (4, .inr (false, (4, .ofNat 0)))], [], [(48, (0, .ofNat 3), .inl 51)], [], []), ((0, 4, .ofNat 256), (0, 0, .ofNat 257), (0, 0, .ofNat 0)), 0, 0)]
set_option maxRecDepth 1000000 in
theorem cv1783 {gh : sxGh} (hg : sxGd sxKw gh) : sxCtV sxKw gh ct1783 := sxMeB_ok (cts := [ct1618]) (cuts := cu1783) (sp := []) 117 sorry hg (by decide) (by decide) (List.forall_mem_cons.mpr ⟨cv1618 hg, (fun _ h => absurd h List.not_mem_nil)⟩)
/-- LotBeliefs.Shortest.join -/
def ct1784 : sxCt := (56, 1, (4, [(1, .ofNat 0, .ofNat 39), (2, .ofNat 0, .ofNat 39), (3, .ofNat 2, .ofNat 64)], [], [(0, .inl 48), (1, .inr (false, (1, .ofNat 0))), (2, .inr (false, (2, .ofNat 0))), (3, .inr (false, (3, .ofNat 0)))], [], [], [], []), [(48, 5), (49, 0), (50, 0)], [
  (4, [], [], [], [], [], [], [])], [], 0, 0)
def cu1784 : List sxCu := [
  (29, (6, [(1, .ofNat 0, .ofNat 39), (2, .ofNat 0, .ofNat 39), (3, .ofNat 2, .ofNat 64), (4, .ofNat 0, .ofNat 255), (5, .ofNat 0, .ofNat 256)], [], [(0, .inl 48), (1, .inr (false, (1, .ofNat 0))), (2, .inr (false, (2, .ofNat 0))), (3, .inr (false, (3, .ofNat 0))), (4, .inr (false, (4, .ofNat 0))), (5, .inr (false, (5, .ofNat 0)))], [], [(48, (0, .ofNat 3), .inl 51)], [], []), ((0, 4, .ofNat 256), (0, 5, .ofNat 256), (0, 0, .ofNat 0)), 0, 0), 
  (8, (5, [(1, .ofNat 0, .ofNat 39), (2, .ofNat 0, .ofNat 39), (3, .ofNat 2, .ofNat 64), (4, .ofNat 0, .ofNat 256)], [], [(0, .inl 48), (1, .inr (false, (1, .ofNat 0))), (2, .inr (false, (2, .ofNat 0))), (3, .inr (false, (3, .ofNat 0))), (4, .inr (false, (4, .ofNat 0)))], [], [(48, (0, .ofNat 3), .inl 51)], [], []), ((0, 4, .ofNat 256), (0, 0, .ofNat 257), (0, 0, .ofNat 0)), 0, 0)]
set_option maxRecDepth 1000000 in
theorem cv1784 {gh : sxGh} (hg : sxGd sxKw gh) : sxCtV sxKw gh ct1784 := sxMeB_ok (cts := [ct1618]) (cuts := cu1784) (sp := []) 117 sorry hg (by decide) (by decide) (List.forall_mem_cons.mpr ⟨cv1618 hg, (fun _ h => absurd h List.not_mem_nil)⟩)
/-- LotBeliefs.Shortest.join -/
def ct1785 : sxCt := (56, 1, (4, [(1, .ofNat 0, .ofNat 2), (2, .ofNat 2, .ofNat 64), (3, .ofNat 2, .ofNat 64)], [], [(0, .inl 48), (1, .inr (false, (1, .ofNat 0))), (2, .inr (false, (2, .ofNat 0))), (3, .inr (false, (3, .ofNat 0)))], [], [], [], []), [(48, 5), (49, 0), (50, 0)], [
  (4, [], [], [], [], [], [], [])], [], 0, 0)
def cu1785 : List sxCu := [
  (29, (6, [(1, .ofNat 0, .ofNat 2), (2, .ofNat 2, .ofNat 64), (3, .ofNat 2, .ofNat 64), (4, .ofNat 0, .ofNat 255), (5, .ofNat 0, .ofNat 256)], [], [(0, .inl 48), (1, .inr (false, (1, .ofNat 0))), (2, .inr (false, (2, .ofNat 0))), (3, .inr (false, (3, .ofNat 0))), (4, .inr (false, (4, .ofNat 0))), (5, .inr (false, (5, .ofNat 0)))], [], [(48, (0, .ofNat 3), .inl 51)], [], []), ((0, 4, .ofNat 256), (0, 5, .ofNat 256), (0, 0, .ofNat 0)), 0, 0), 
  (8, (5, [(1, .ofNat 0, .ofNat 2), (2, .ofNat 2, .ofNat 64), (3, .ofNat 2, .ofNat 64), (4, .ofNat 0, .ofNat 256)], [], [(0, .inl 48), (1, .inr (false, (1, .ofNat 0))), (2, .inr (false, (2, .ofNat 0))), (3, .inr (false, (3, .ofNat 0))), (4, .inr (false, (4, .ofNat 0)))], [], [(48, (0, .ofNat 3), .inl 51)], [], []), ((0, 4, .ofNat 256), (0, 0, .ofNat 257), (0, 0, .ofNat 0)), 0, 0)]
set_option maxRecDepth 1000000 in
theorem cv1785 {gh : sxGh} (hg : sxGd sxKw gh) : sxCtV sxKw gh ct1785 := sxMeB_ok (cts := [ct1618]) (cuts := cu1785) (sp := []) 117 sorry hg (by decide) (by decide) (List.forall_mem_cons.mpr ⟨cv1618 hg, (fun _ h => absurd h List.not_mem_nil)⟩)
end SXC
