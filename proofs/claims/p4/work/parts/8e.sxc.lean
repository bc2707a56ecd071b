/-! SX: contracts, by program -/
section SXC
/-- LotBeliefsModel.whoHere -/
def ct230 : sxCt := (235, 30, (6, [(1, .ofNat 0, .ofNat 200), (2, .ofNat 0, .ofNat 200), (3, .ofNat 0, .ofNat 220), (4, .ofNat 0, .ofNat 10), (5, .ofNat 0, .ofNat 200)], [(5, 2, .ofNat 0)], [(0, .inl 78)], [], [(78, (0, .ofNat 8), .inr (false, (0, .ofNat 0))), (78, (0, .ofNat 5), .inr (false, (0, .ofNat 0))), (78, (0, .ofNat 2), .inr (false, (1, .ofNat 0))), (78, (0, .ofNat 4), .inr (false, (2, .ofNat 0))), (78, (0, .ofNat 28), .inr (false, (3, .ofNat 0))), (78, (0, .ofNat 26), .inr (false, (4, .ofNat 0))), (579, (0, .ofNat 1), .inr (false, (0, .ofNat 1))), (579, (0, .ofNat 4), .inr (false, (5, .ofNat 0)))], [], []), [(78, 5), (78, 6), (78, 7), (78, 9), (78, 27), (78, 29), (579, 1), (579, 2), (579, 5), (107000116, 0), (339000538, 0)], [
  (11, [(6, .ofNat 0, .ofNat 200), (7, .ofNat 1, .ofNat 3), (8, .ofNat 0, .ofNat 10), (9, .ofNat 0, .ofNat 220), (10, .ofNat 0, .ofNat 200)], [(2, 6, .ofNat 0), (3, 9, .ofNat 199), (4, 8, .ofNat 0), (5, 6, .ofNat 0), (5, 10, .ofNat 0), (7, 8, .ofNat 2), (8, 4, .ofNat 1), (10, 6, .ofNat 0)], [], [], [(78, (0, .ofNat 2), .inr (false, (1, .ofNat 0))), (78, (0, .ofNat 4), .inr (false, (6, .ofNat 0))), (78, (0, .ofNat 5), .inr (false, (7, .ofNat 0))), (78, (0, .ofNat 8), .inr (false, (0, .ofNat 0))), (78, (0, .ofNat 26), .inr (false, (8, .ofNat 0))), (78, (0, .ofNat 28), .inr (false, (9, .ofNat 0))), (579, (0, .ofNat 1), .inr (false, (0, .ofNat 1))), (579, (0, .ofNat 4), .inr (false, (10, .ofNat 0)))], [], []), 
  (10, [(1, .ofNat 5, .ofNat 200), (2, .ofNat 0, .ofNat 195), (3, .ofNat 0, .ofNat 199), (4, .ofNat 0, .ofNat 9), (5, .ofNat 0, .ofNat 195), (6, .ofNat 5, .ofNat 200), (7, .ofNat 1, .ofNat 10), (8, .ofNat 1, .ofNat 200), (9, .ofNat 2, .ofNat 200)], [(2, 6, .negSucc 4), (5, 6, .negSucc 4), (5, 9, .negSucc 1), (6, 1, .ofNat 0), (9, 1, .ofNat 0), (9, 6, .ofNat 0)], [], [], [(78, (0, .ofNat 2), .inr (false, (1, .ofNat 0))), (78, (0, .ofNat 4), .inr (false, (6, .ofNat 0))), (78, (0, .ofNat 5), .inr (false, (0, .ofNat 0))), (78, (0, .ofNat 8), .inr (false, (0, .ofNat 0))), (78, (0, .ofNat 26), .inr (false, (7, .ofNat 0))), (78, (0, .ofNat 28), .inr (false, (8, .ofNat 0))), (579, (0, .ofNat 1), .inr (false, (0, .ofNat 1))), (579, (0, .ofNat 4), .inr (false, (9, .ofNat 0)))], [], [])], [], 0, 0)
def cu230 : List sxCu := []
set_option maxRecDepth 1000000 in
theorem cv230 {gh : sxGh} (hg : sxGd sxKw gh) : sxCtV sxKw gh ct230 := sxMeB_ok (cts := [ct124, ct228, ct229, ct126, ct127, ct227]) (cuts := cu230) (sp := [(134, 579, 0)]) 3988 (by decide +kernel) hg (by decide) (by decide) (List.forall_mem_cons.mpr ⟨cv124 hg, (List.forall_mem_cons.mpr ⟨cv228 hg, (List.forall_mem_cons.mpr ⟨cv229 hg, (List.forall_mem_cons.mpr ⟨cv126 hg, (List.forall_mem_cons.mpr ⟨cv127 hg, (List.forall_mem_cons.mpr ⟨cv227 hg, (fun _ h => absurd h List.not_mem_nil)⟩)⟩)⟩)⟩)⟩)⟩)
/-- LotBeliefs.kin -/
def ct232 : sxCt := (122, 2, (3, [(1, .negSucc 2147483647, .ofNat 2147483647), (2, .negSucc 2147483647, .ofNat 2147483647)], [], [(0, .inl 0), (1, .inr (false, (1, .ofNat 0))), (2, .inr (false, (2, .ofNat 0)))], [], [], [], []), [(30, 0)], [
  (4, [(1, .ofNat 0, .ofNat 11), (2, .ofNat 0, .ofNat 11), (3, .ofNat 0, .ofNat 4)], [], [], [.inr (false, (3, .ofNat 0))], [], [], [])], [
  (0, (4, [(3, .negSucc 2147483647, .ofNat 2147483647)], [], [], [], [(30, (0, .ofNat 0), .inr (false, (3, .ofNat 0)))], [], []))], 1, 6)
def cu232 : List sxCu := []
set_option maxRecDepth 1000000 in
theorem cv232 {gh : sxGh} (hg : sxGd sxKw gh) : sxCtV sxKw gh ct232 := sxMeB_ok (cts := []) (cuts := cu232) (sp := []) 597 (by decide +kernel) hg (by decide) (by decide) (fun _ h => absurd h List.not_mem_nil)
/-- LotBeliefsModel.kin -/
def ct233 : sxCt := (249, 2, (3, [(1, .negSucc 2147483647, .ofNat 2147483647), (2, .negSucc 2147483647, .ofNat 2147483647)], [], [(0, .inl 78), (1, .inr (false, (1, .ofNat 0))), (2, .inr (false, (2, .ofNat 0)))], [], [], [], []), [(78, 1), (80, 0)], [
  (5, [(3, .ofNat 0, .ofNat 4), (4, .ofNat 0, .ofNat 1)], [], [], [.inr (false, (3, .ofNat 0))], [(78, (0, .ofNat 0), .inr (false, (4, .ofNat 0)))], [], [])], [], 0, 0)
def cu233 : List sxCu := []
set_option maxRecDepth 1000000 in
theorem cv233 {gh : sxGh} (hg : sxGd sxKw gh) : sxCtV sxKw gh ct233 := sxMeB_ok (cts := []) (cuts := cu233) (sp := []) 423 (by decide +kernel) hg (by decide) (by decide) (fun _ h => absurd h List.not_mem_nil)
/-- LotBeliefsModel.kin -/
def ct234 : sxCt := (249, 2, (3, [(1, .ofNat 0, .ofNat 11), (2, .ofNat 0, .ofNat 11)], [], [(0, .inl 78), (1, .inr (false, (1, .ofNat 0))), (2, .inr (false, (2, .ofNat 0)))], [], [], [], []), [(78, 1), (80, 0)], [
  (5, [(3, .ofNat 0, .ofNat 4), (4, .ofNat 0, .ofNat 1)], [], [], [.inr (false, (3, .ofNat 0))], [(78, (0, .ofNat 0), .inr (false, (4, .ofNat 0)))], [], [])], [], 0, 0)
def cu234 : List sxCu := []
set_option maxRecDepth 1000000 in
theorem cv234 {gh : sxGh} (hg : sxGd sxKw gh) : sxCtV sxKw gh ct234 := sxMeB_ok (cts := []) (cuts := cu234) (sp := []) 355 (by decide +kernel) hg (by decide) (by decide) (fun _ h => absurd h List.not_mem_nil)
/-- LotBeliefsModel.fallOut -/
def ct235 : sxCt := (251, 2, (4, [(1, .negSucc 2147483647, .ofNat 2147483647), (2, .negSucc 2147483647, .ofNat 2147483647), (3, .negSucc 2147483647, .ofNat 2147483647)], [], [(0, .inl 78), (1, .inr (false, (1, .ofNat 0))), (2, .inr (false, (2, .ofNat 0))), (3, .inr (false, (3, .ofNat 0)))], [], [], [], []), [(78, 1), (80, 0)], [
  (5, [(4, .ofNat 0, .ofNat 2)], [], [], [.inr (false, (0, .ofNat 0))], [(78, (0, .ofNat 0), .inr (false, (4, .ofNat 0)))], [], []), 
  (4, [(1, .ofNat 0, .ofNat 11), (2, .ofNat 0, .ofNat 11), (3, .ofNat 0, .ofNat 51)], [], [], [.inr (false, (0, .ofNat 1))], [(78, (0, .ofNat 0), .inr (false, (0, .ofNat 0)))], [], [])], [], 0, 0)
def cu235 : List sxCu := []
set_option maxRecDepth 1000000 in
theorem cv235 {gh : sxGh} (hg : sxGd sxKw gh) : sxCtV sxKw gh ct235 := sxMeB_ok (cts := []) (cuts := cu235) (sp := []) 390 (by decide +kernel) hg (by decide) (by decide) (fun _ h => absurd h List.not_mem_nil)
/-- LotBeliefsModel.fallOut -/
def ct236 : sxCt := (251, 2, (4, [(1, .ofNat 0, .ofNat 11), (2, .negSucc 2147483647, .ofNat 2147483647), (3, .negSucc 2147483647, .ofNat 2147483647)], [], [(0, .inl 78), (1, .inr (false, (1, .ofNat 0))), (2, .inr (false, (2, .ofNat 0))), (3, .inr (false, (3, .ofNat 0)))], [], [], [], []), [(78, 1), (80, 0)], [
  (5, [(4, .ofNat 0, .ofNat 2)], [], [], [.inr (false, (0, .ofNat 0))], [(78, (0, .ofNat 0), .inr (false, (4, .ofNat 0)))], [], []), 
  (4, [(2, .ofNat 0, .ofNat 11), (3, .ofNat 0, .ofNat 51)], [], [], [.inr (false, (0, .ofNat 1))], [(78, (0, .ofNat 0), .inr (false, (0, .ofNat 0)))], [], [])], [], 0, 0)
def cu236 : List sxCu := []
set_option maxRecDepth 1000000 in
theorem cv236 {gh : sxGh} (hg : sxGd sxKw gh) : sxCtV sxKw gh ct236 := sxMeB_ok (cts := []) (cuts := cu236) (sp := []) 356 (by decide +kernel) hg (by decide) (by decide) (fun _ h => absurd h List.not_mem_nil)
/-- LotBeliefsModel.fallOut -/
def ct237 : sxCt := (251, 2, (4, [(1, .ofNat 0, .ofNat 11), (2, .ofNat 0, .ofNat 11), (3, .negSucc 2147483647, .ofNat 2147483647)], [], [(0, .inl 78), (1, .inr (false, (1, .ofNat 0))), (2, .inr (false, (2, .ofNat 0))), (3, .inr (false, (3, .ofNat 0)))], [], [], [], []), [(78, 1), (80, 0)], [
  (5, [(4, .ofNat 0, .ofNat 2)], [], [], [.inr (false, (0, .ofNat 0))], [(78, (0, .ofNat 0), .inr (false, (4, .ofNat 0)))], [], []), 
  (4, [(3, .ofNat 0, .ofNat 51)], [], [], [.inr (false, (0, .ofNat 1))], [(78, (0, .ofNat 0), .inr (false, (0, .ofNat 0)))], [], [])], [], 0, 0)
def cu237 : List sxCu := []
set_option maxRecDepth 1000000 in
theorem cv237 {gh : sxGh} (hg : sxGd sxKw gh) : sxCtV sxKw gh ct237 := sxMeB_ok (cts := []) (cuts := cu237) (sp := []) 322 (by decide +kernel) hg (by decide) (by decide) (fun _ h => absurd h List.not_mem_nil)
/-- LotBeliefsModel.fallOut -/
def ct238 : sxCt := (251, 2, (4, [(1, .ofNat 0, .ofNat 11), (2, .ofNat 0, .ofNat 11), (3, .ofNat 0, .ofNat 51)], [], [(0, .inl 78), (1, .inr (false, (1, .ofNat 0))), (2, .inr (false, (2, .ofNat 0))), (3, .inr (false, (3, .ofNat 0)))], [], [], [], []), [(78, 1), (80, 0)], [
  (5, [(4, .ofNat 0, .ofNat 1)], [], [], [.inr (false, (0, .ofNat 0))], [(78, (0, .ofNat 0), .inr (false, (4, .ofNat 0)))], [], []), 
  (4, [], [], [], [.inr (false, (0, .ofNat 1))], [(78, (0, .ofNat 0), .inr (false, (0, .ofNat 0)))], [], [])], [], 0, 0)
def cu238 : List sxCu := []
set_option maxRecDepth 1000000 in
theorem cv238 {gh : sxGh} (hg : sxGd sxKw gh) : sxCtV sxKw gh ct238 := sxMeB_ok (cts := []) (cuts := cu238) (sp := []) 254 (by decide +kernel) hg (by decide) (by decide) (fun _ h => absurd h List.not_mem_nil)
/-- LotBeliefs.Jar.slipsSoIn -/
def ct239 : sxCt := (26, 1, (2, [(1, .ofNat 0, .ofNat 63)], [], [(0, .inl 3), (1, .inr (false, (1, .ofNat 0)))], [], [], [], []), [], [
  (3, [(2, .ofNat 0, .ofNat 4095)], [], [], [.inr (false, (2, .ofNat 0))], [], [], [])], [], 0, 0)
def cu239 : List sxCu := [
  (4, (4, [(1, .ofNat 0, .ofNat 63), (2, .ofNat 0, .ofNat 4095), (3, .ofNat 0, .ofNat 12)], [], [(0, .inl 3), (1, .inr (false, (1, .ofNat 0))), (2, .inr (false, (2, .ofNat 0))), (3, .inr (false, (3, .ofNat 0)))], [], [], [], []), ((0, 3, .ofNat 12), (0, 0, .ofNat 0), (0, 0, .ofNat 0)), 0, 0)]
set_option maxRecDepth 1000000 in
theorem cv239 {gh : sxGh} (hg : sxGd sxKw gh) : sxCtV sxKw gh ct239 := sxMeB_ok (cts := []) (cuts := cu239) (sp := []) 103 (by decide +kernel) hg (by decide) (by decide) (fun _ h => absurd h List.not_mem_nil)
/-- LotBeliefsModel.truthsNow -/
def ct240 : sxCt := (253, 1, (1, [], [], [(0, .inl 78)], [], [], [], []), [], [
  (2, [(1, .ofNat 0, .ofNat 4095)], [], [], [.inr (false, (1, .ofNat 0))], [], [], [])], [], 0, 0)
def cu240 : List sxCu := [
  (4, (3, [(1, .ofNat 0, .ofNat 4095), (2, .ofNat 0, .ofNat 12)], [], [(0, .inl 78), (1, .inr (false, (1, .ofNat 0))), (2, .inr (false, (2, .ofNat 0)))], [], [], [], []), ((0, 2, .ofNat 12), (0, 0, .ofNat 0), (0, 0, .ofNat 0)), 0, 0)]
set_option maxRecDepth 1000000 in
theorem cv240 {gh : sxGh} (hg : sxGd sxKw gh) : sxCtV sxKw gh ct240 := sxMeB_ok (cts := []) (cuts := cu240) (sp := []) 111 (by decide +kernel) hg (by decide) (by decide) (fun _ h => absurd h List.not_mem_nil)
/-- LotBeliefs.dull -/
def ct241 : sxCt := (125, 0, (1, [], [], [(0, .inl 0)], [], [], [], []), [], [
  (2, [(1, .ofNat 0, .ofNat 4095)], [], [], [.inr (false, (1, .ofNat 0))], [], [], [])], [], 0, 0)
def cu241 : List sxCu := [
  (4, (3, [(1, .ofNat 0, .ofNat 4095), (2, .ofNat 0, .ofNat 12)], [], [(0, .inl 0), (1, .inr (false, (1, .ofNat 0))), (2, .inr (false, (2, .ofNat 0)))], [], [], [], []), ((0, 2, .ofNat 12), (0, 0, .ofNat 0), (0, 0, .ofNat 0)), 0, 0)]
set_option maxRecDepth 1000000 in
theorem cv241 {gh : sxGh} (hg : sxGd sxKw gh) : sxCtV sxKw gh ct241 := sxMeB_ok (cts := []) (cuts := cu241) (sp := []) 139 (by decide +kernel) hg (by decide) (by decide) (fun _ h => absurd h List.not_mem_nil)
/-- LotBeliefsModel.dull -/
def ct242 : sxCt := (255, 0, (1, [], [], [(0, .inl 78)], [], [], [], []), [(78, 1)], [
  (2, [(1, .ofNat 0, .ofNat 4095)], [], [], [.inr (false, (1, .ofNat 0))], [(78, (0, .ofNat 0), .inr (false, (0, .ofNat 0)))], [], [])], [], 0, 0)
def cu242 : List sxCu := [
  (9, (3, [(1, .ofNat 0, .ofNat 4095), (2, .ofNat 0, .ofNat 12)], [], [(0, .inl 78), (1, .inr (false, (1, .ofNat 0))), (2, .inr (false, (2, .ofNat 0)))], [], [(78, (0, .ofNat 0), .inr (false, (0, .ofNat 0)))], [], []), ((0, 2, .ofNat 12), (0, 0, .ofNat 0), (0, 0, .ofNat 0)), 0, 0)]
set_option maxRecDepth 1000000 in
theorem cv242 {gh : sxGh} (hg : sxGd sxKw gh) : sxCtV sxKw gh ct242 := sxMeB_ok (cts := []) (cuts := cu242) (sp := []) 111 (by decide +kernel) hg (by decide) (by decide) (fun _ h => absurd h List.not_mem_nil)
/-- LotBeliefs.takeOrder -/
def ct243 : sxCt := (182, 1, (2, [(1, .negSucc 9223372036854775807, .ofNat 9223372036854775807)], [], [(0, .inl 0), (1, .inr (true, (1, .ofNat 0)))], [], [], [], []), [(28, 0)], [
  (2, [], [], [], [], [], [], [])], [], 0, 0)
def cu243 : List sxCu := [
  (2, (3, [(1, .negSucc 9223372036854775807, .ofNat 9223372036854775807), (2, .ofNat 0, .ofNat 12)], [], [(0, .inl 0), (1, .inr (true, (1, .ofNat 0))), (3, .inr (false, (2, .ofNat 0)))], [], [], [], []), ((0, 2, .ofNat 12), (0, 0, .ofNat 0), (0, 0, .ofNat 0)), 0, 0)]
set_option maxRecDepth 1000000 in
theorem cv243 {gh : sxGh} (hg : sxGd sxKw gh) : sxCtV sxKw gh ct243 := sxMeB_ok (cts := []) (cuts := cu243) (sp := []) 123 (by decide +kernel) hg (by decide) (by decide) (fun _ h => absurd h List.not_mem_nil)
/-- LotBeliefs.order -/
def ct244 : sxCt := (126, 2, (2, [(1, .negSucc 9223372036854775807, .ofNat 9223372036854775807)], [], [(0, .inl 0), (1, .inr (true, (1, .ofNat 0)))], [], [], [], []), [(28, 0)], [
  (3, [(2, .ofNat 0, .ofNat 1)], [], [], [.inr (false, (2, .ofNat 0))], [], [], [])], [], 0, 0)
def cu244 : List sxCu := [
  (23, (4, [(1, .negSucc 9223372036854775807, .ofNat 9223372036854775807), (2, .ofNat 0, .ofNat 4095), (3, .ofNat 0, .ofNat 12)], [], [(0, .inl 0), (1, .inr (true, (1, .ofNat 0))), (3, .inr (false, (2, .ofNat 0))), (4, .inr (false, (3, .ofNat 0)))], [], [], [], []), ((0, 3, .ofNat 12), (0, 0, .ofNat 0), (0, 0, .ofNat 0)), 0, 0)]
set_option maxRecDepth 1000000 in
theorem cv244 {gh : sxGh} (hg : sxGd sxKw gh) : sxCtV sxKw gh ct244 := sxMeB_ok (cts := [ct243]) (cuts := cu244) (sp := []) 201 (by decide +kernel) hg (by decide) (by decide) (List.forall_mem_cons.mpr ⟨cv243 hg, (fun _ h => absurd h List.not_mem_nil)⟩)
/-- LotBeliefsModel.order -/
def ct245 : sxCt := (256, 2, (2, [(1, .negSucc 9223372036854775807, .ofNat 9223372036854775807)], [], [(0, .inl 78), (1, .inr (true, (1, .ofNat 0)))], [], [], [], []), [(78, 1), (90, 0), (560, 0)], [
  (3, [(2, .ofNat 0, .ofNat 1)], [], [], [.inr (false, (2, .ofNat 0))], [(78, (0, .ofNat 0), .inr (false, (0, .ofNat 0)))], [], [])], [], 0, 0)
def cu245 : List sxCu := [
  (112, (5, [(1, .ofNat 0, .ofNat 9223372036854775807), (2, .ofNat 0, .ofNat 4095), (3, .ofNat 0, .ofNat 12), (4, .ofNat 0, .ofNat 12)], [(3, 4, .ofNat 0)], [(0, .inl 78), (1, .inr (true, (1, .ofNat 0))), (3, .inr (true, (0, .ofNat 0))), (5, .inr (false, (2, .ofNat 0))), (6, .inr (false, (3, .ofNat 0)))], [], [(78, (0, .ofNat 0), .inr (false, (0, .ofNat 0))), (78, (0, .ofNat 12), .inl 82), (82, (0, .ofNat 1), .inr (false, (4, .ofNat 0)))], [], []), ((0, 3, .ofNat 12), (0, 0, .ofNat 0), (0, 0, .ofNat 0)), 0, 0), 
  (20, (6, [(1, .negSucc 9223372036854775807, .ofNat 9223372036854775807), (2, .negSucc 9223372036854775807, .ofNat 9223372036854775807), (3, .ofNat 0, .ofNat 4095), (4, .negSucc 0, .ofNat 11), (5, .ofNat 0, .ofNat 12)], [(4, 5, .negSucc 0)], [(0, .inl 78), (1, .inr (true, (1, .ofNat 0))), (3, .inr (true, (2, .ofNat 0))), (5, .inr (false, (3, .ofNat 0))), (6, .inr (false, (4, .ofNat 0)))], [], [(78, (0, .ofNat 0), .inr (false, (0, .ofNat 0))), (78, (0, .ofNat 12), .inl 82), (82, (0, .ofNat 1), .inr (false, (5, .ofNat 0)))], [], []), ((4, 0, .ofNat 14), (0, 0, .ofNat 0), (0, 0, .ofNat 0)), 0, 0)]
set_option maxRecDepth 1000000 in
theorem cv245 {gh : sxGh} (hg : sxGd sxKw gh) : sxCtV sxKw gh ct245 := sxMeB_ok (cts := []) (cuts := cu245) (sp := []) 209 (by decide +kernel) hg (by decide) (by decide) (fun _ h => absurd h List.not_mem_nil)
/-- LotBeliefs.Course.seat -/
def ct246 : sxCt := (4, 0, (2, [(1, .ofNat 0, .ofNat 16)], [], [(0, .inl 32), (1, .inr (false, (1, .ofNat 0)))], [], [], [], []), [(32, 11), (32, 12), (34000037, 0)], [
  (3, [(2, .ofNat 1, .ofNat 17)], [], [], [], [(32, (0, .ofNat 10), .inr (false, (2, .ofNat 0)))], [], [])], [], 0, 0)
def cu246 : List sxCu := []
set_option maxRecDepth 1000000 in
theorem cv246 {gh : sxGh} (hg : sxGd sxKw gh) : sxCtV sxKw gh ct246 := sxMeB_ok (cts := []) (cuts := cu246) (sp := []) 103 (by decide +kernel) hg (by decide) (by decide) (fun _ h => absurd h List.not_mem_nil)
/-- LotBeliefs.Course.goBack -/
def ct247 : sxCt := (3, 1, (2, [(1, .ofNat 0, .ofNat 1)], [], [(0, .inl 32), (1, .inl 28), (2, .inr (false, (1, .ofNat 0)))], [], [], [], []), [(32, 11), (32, 12), (33000037, 0)], [
  (3, [(2, .ofNat 0, .ofNat 17)], [], [], [], [(32, (0, .ofNat 10), .inr (false, (2, .ofNat 0)))], [], [])], [], 0, 0)
def cu247 : List sxCu := [
  (12, (3, [(1, .ofNat 0, .ofNat 1), (2, .ofNat 0, .ofNat 17)], [], [(0, .inl 32), (1, .inl 28), (2, .inr (false, (1, .ofNat 0))), (3, .inr (false, (2, .ofNat 0)))], [], [(32, (0, .ofNat 10), .inr (false, (0, .ofNat 0))), (32, (0, .ofNat 11), .inr (false, (0, .ofNat 0)))], [], []), ((0, 2, .ofNat 19), (0, 0, .ofNat 0), (0, 0, .ofNat 0)), 0, 0), 
  (46, (4, [(1, .ofNat 0, .ofNat 1), (2, .ofNat 0, .ofNat 1), (3, .ofNat 0, .ofNat 17)], [], [(0, .inl 32), (1, .inl 28), (2, .inr (false, (1, .ofNat 0))), (3, .inr (false, (2, .ofNat 0)))], [], [(32, (0, .ofNat 4), .inl 33), (32, (0, .ofNat 10), .inr (false, (3, .ofNat 0)))], [], []), ((0, 2, .ofNat 1), (0, 0, .ofNat 0), (0, 0, .ofNat 0)), 0, 0)]
set_option maxRecDepth 1000000 in
theorem cv247 {gh : sxGh} (hg : sxGd sxKw gh) : sxCtV sxKw gh ct247 := sxMeB_ok (cts := [ct246]) (cuts := cu247) (sp := []) 123 (by decide +kernel) hg (by decide) (by decide) (List.forall_mem_cons.mpr ⟨cv246 hg, (fun _ h => absurd h List.not_mem_nil)⟩)
/-- LotBeliefs.Jar.deathWeek -/
def ct248 : sxCt := (22, 0, (2, [(1, .ofNat 0, .ofNat 16)], [], [(0, .inl 11), (1, .inr (false, (1, .ofNat 0)))], [], [], [], []), [], [
  (3, [(2, .ofNat 0, .ofNat 52)], [], [], [.inr (false, (2, .ofNat 0))], [], [], [])], [], 0, 0)
def cu248 : List sxCu := [
  (2, (3, [(1, .ofNat 0, .ofNat 16), (2, .ofNat 0, .ofNat 52)], [], [(0, .inl 11), (1, .inr (false, (1, .ofNat 0))), (2, .inr (false, (2, .ofNat 0)))], [], [], [], []), ((0, 2, .ofNat 52), (0, 0, .ofNat 0), (0, 0, .ofNat 0)), 0, 0)]
set_option maxRecDepth 1000000 in
theorem cv248 {gh : sxGh} (hg : sxGd sxKw gh) : sxCtV sxKw gh ct248 := sxMeB_ok (cts := []) (cuts := cu248) (sp := []) 80 (by decide +kernel) hg (by decide) (by decide) (fun _ h => absurd h List.not_mem_nil)
/-- LotBeliefs.Jar.deathWeek -/
def ct249 : sxCt := (22, 0, (2, [(1, .ofNat 0, .ofNat 16)], [], [(0, .inl 3), (1, .inr (false, (1, .ofNat 0)))], [], [], [], []), [], [
  (3, [(2, .ofNat 0, .ofNat 52)], [], [], [.inr (false, (2, .ofNat 0))], [], [], [])], [], 0, 0)
def cu249 : List sxCu := [
  (2, (3, [(1, .ofNat 0, .ofNat 16), (2, .ofNat 0, .ofNat 52)], [], [(0, .inl 3), (1, .inr (false, (1, .ofNat 0))), (2, .inr (false, (2, .ofNat 0)))], [], [], [], []), ((0, 2, .ofNat 52), (0, 0, .ofNat 0), (0, 0, .ofNat 0)), 0, 0)]
set_option maxRecDepth 1000000 in
theorem cv249 {gh : sxGh} (hg : sxGd sxKw gh) : sxCtV sxKw gh ct249 := sxMeB_ok (cts := []) (cuts := cu249) (sp := []) 80 (by decide +kernel) hg (by decide) (by decide) (fun _ h => absurd h List.not_mem_nil)
/-- Long.bitCount -/
def ct252 : sxCt := (329, 0, (2, [(1, .negSucc 9223372036854775807, .ofNat 9223372036854775807)], [], [(0, .inr (true, (1, .ofNat 0)))], [], [], [], []), [], [
  (3, [(2, .ofNat 0, .ofNat 127)], [], [], [.inr (false, (2, .ofNat 0))], [], [], [])], [], 0, 0)
def cu252 : List sxCu := []
set_option maxRecDepth 1000000 in
theorem cv252 {gh : sxGh} (hg : sxGd sxKw gh) : sxCtV sxKw gh ct252 := sxMeB_ok (cts := []) (cuts := cu252) (sp := []) 109 (by decide +kernel) hg (by decide) (by decide) (fun _ h => absurd h List.not_mem_nil)
/-- LotBeliefs.Tongue.tell -/
def ct253 : sxCt := (98, 1, (7, [(1, .ofNat 0, .ofNat 16), (2, .ofNat 0, .ofNat 16), (3, .negSucc 2147483647, .ofNat 2147483647), (4, .ofNat 0, .ofNat 1), (5, .ofNat 0, .ofNat 16), (6, .ofNat 0, .ofNat 17)], [], [(0, .inl 23), (1, .inl 11), (2, .inr (false, (1, .ofNat 0))), (3, .inr (false, (2, .ofNat 0))), (4, .inr (false, (3, .ofNat 0))), (5, .inr (false, (4, .ofNat 0))), (6, .inr (false, (5, .ofNat 0))), (7, .inr (false, (6, .ofNat 0)))], [], [], [], []), [(25, 0)], [
  (11, [(7, .negSucc 2147483647, .ofNat 2147483647), (8, .negSucc 2147483647, .ofNat 2147483647), (9, .ofNat 0, .ofNat 127), (10, .ofNat 0, .ofNat 127)], [], [], [], [(25, (0, .ofNat 0), .inr (false, (3, .ofNat 0))), (25, (0, .ofNat 1), .inr (false, (4, .ofNat 0))), (25, (0, .ofNat 2), .inr (false, (7, .ofNat 0))), (25, (0, .ofNat 3), .inr (false, (8, .ofNat 0))), (25, (0, .ofNat 4), .inr (false, (1, .ofNat 0))), (25, (0, .ofNat 5), .inr (false, (2, .ofNat 0))), (25, (0, .ofNat 6), .inr (false, (5, .ofNat 0))), (25, (0, .ofNat 7), .inr (false, (6, .ofNat 0))), (25, (0, .ofNat 8), .inr (false, (9, .ofNat 0))), (25, (0, .ofNat 9), .inr (false, (10, .ofNat 0)))], [], [])], [], 0, 0)
def cu253 : List sxCu := []
set_option maxRecDepth 1000000 in
theorem cv253 {gh : sxGh} (hg : sxGd sxKw gh) : sxCtV sxKw gh ct253 := sxMeB_ok (cts := [ct252]) (cuts := cu253) (sp := []) 132 (by decide +kernel) hg (by decide) (by decide) (List.forall_mem_cons.mpr ⟨cv252 hg, (fun _ h => absurd h List.not_mem_nil)⟩)
/-- LotBeliefs.Tongue.reckon -/
def ct254 : sxCt := (101, 0, (4, [(1, .ofNat 0, .ofNat 4095), (2, .negSucc 2147483647, .ofNat 2147483647), (3, .negSucc 2147483647, .ofNat 2147483647)], [], [(0, .inr (false, (1, .ofNat 0))), (1, .inr (false, (2, .ofNat 0))), (2, .inr (false, (3, .ofNat 0)))], [], [], [], []), [], [
  (5, [(4, .negSucc 2147483647, .ofNat 2147483647)], [], [], [.inr (false, (4, .ofNat 0))], [], [], [])], [], 0, 0)
def cu254 : List sxCu := []
set_option maxRecDepth 1000000 in
theorem cv254 {gh : sxGh} (hg : sxGd sxKw gh) : sxCtV sxKw gh ct254 := sxMeB_ok (cts := []) (cuts := cu254) (sp := []) 110 (by decide +kernel) hg (by decide) (by decide) (fun _ h => absurd h List.not_mem_nil)
/-- LotBeliefs.Tongue.reckon -/
def ct255 : sxCt := (101, 0, (4, [(1, .negSucc 2147483647, .ofNat 2147483647), (2, .negSucc 2147483647, .ofNat 2147483647), (3, .negSucc 2147483647, .ofNat 2147483647)], [], [(0, .inr (false, (1, .ofNat 0))), (1, .inr (false, (2, .ofNat 0))), (2, .inr (false, (3, .ofNat 0)))], [], [], [], []), [], [
  (5, [(4, .negSucc 2147483647, .ofNat 2147483647)], [], [], [.inr (false, (4, .ofNat 0))], [], [], [])], [], 0, 0)
def cu255 : List sxCu := []
set_option maxRecDepth 1000000 in
theorem cv255 {gh : sxGh} (hg : sxGd sxKw gh) : sxCtV sxKw gh ct255 := sxMeB_ok (cts := []) (cuts := cu255) (sp := []) 110 (by decide +kernel) hg (by decide) (by decide) (fun _ h => absurd h List.not_mem_nil)
/-- LotBeliefs.Tongue.whoFalls -/
def ct256 : sxCt := (99, 1, (1, [], [], [(0, .inl 23)], [], [], [], []), [(26, 0)], [
  (2, [(1, .ofNat 0, .ofNat 2147480647)], [], [], [.inr (false, (1, .ofNat 0))], [], [], [])], [], 0, 0)
def cu256 : List sxCu := [
  (4, (3, [(1, .ofNat 0, .ofNat 64), (2, .ofNat 0, .ofNat 201)], [(1, 2, .ofNat 0)], [(0, .inl 23), (1, .inr (false, (1, .ofNat 0))), (2, .inr (false, (2, .ofNat 0)))], [], [], [], []), ((0, 2, .ofNat 201), (0, 0, .ofNat 0), (0, 0, .ofNat 0)), 0, 0)]
set_option maxRecDepth 1000000 in
theorem cv256 {gh : sxGh} (hg : sxGd sxKw gh) : sxCtV sxKw gh ct256 := sxMeB_ok (cts := [ct254, ct255]) (cuts := cu256) (sp := []) 239 (by decide +kernel) hg (by decide) (by decide) (List.forall_mem_cons.mpr ⟨cv254 hg, (List.forall_mem_cons.mpr ⟨cv255 hg, (fun _ h => absurd h List.not_mem_nil)⟩)⟩)
/-- LotBeliefs.Tongue.tell -/
def ct257 : sxCt := (98, 1, (7, [(1, .ofNat 0, .ofNat 16), (2, .ofNat 0, .ofNat 16), (3, .negSucc 2147483647, .ofNat 2147483647), (4, .ofNat 0, .ofNat 1), (5, .ofNat 0, .ofNat 16), (6, .ofNat 0, .ofNat 17)], [], [(0, .inl 19), (1, .inl 11), (2, .inr (false, (1, .ofNat 0))), (3, .inr (false, (2, .ofNat 0))), (4, .inr (false, (3, .ofNat 0))), (5, .inr (false, (4, .ofNat 0))), (6, .inr (false, (5, .ofNat 0))), (7, .inr (false, (6, .ofNat 0)))], [], [], [], []), [(21, 0)], [
  (11, [(7, .negSucc 2147483647, .ofNat 2147483647), (8, .negSucc 2147483647, .ofNat 2147483647), (9, .ofNat 0, .ofNat 127), (10, .ofNat 0, .ofNat 127)], [], [], [], [(21, (0, .ofNat 0), .inr (false, (3, .ofNat 0))), (21, (0, .ofNat 1), .inr (false, (4, .ofNat 0))), (21, (0, .ofNat 2), .inr (false, (7, .ofNat 0))), (21, (0, .ofNat 3), .inr (false, (8, .ofNat 0))), (21, (0, .ofNat 4), .inr (false, (1, .ofNat 0))), (21, (0, .ofNat 5), .inr (false, (2, .ofNat 0))), (21, (0, .ofNat 6), .inr (false, (5, .ofNat 0))), (21, (0, .ofNat 7), .inr (false, (6, .ofNat 0))), (21, (0, .ofNat 8), .inr (false, (9, .ofNat 0))), (21, (0, .ofNat 9), .inr (false, (10, .ofNat 0)))], [], [])], [], 0, 0)
def cu257 : List sxCu := []
set_option maxRecDepth 1000000 in
theorem cv257 {gh : sxGh} (hg : sxGd sxKw gh) : sxCtV sxKw gh ct257 := sxMeB_ok (cts := [ct252]) (cuts := cu257) (sp := []) 132 (by decide +kernel) hg (by decide) (by decide) (List.forall_mem_cons.mpr ⟨cv252 hg, (fun _ h => absurd h List.not_mem_nil)⟩)
/-- LotBeliefs.Tongue.whoFalls -/
def ct258 : sxCt := (99, 1, (1, [], [], [(0, .inl 19)], [], [], [], []), [(22, 0)], [
  (2, [(1, .ofNat 0, .ofNat 2147480647)], [], [], [.inr (false, (1, .ofNat 0))], [], [], [])], [], 0, 0)
def cu258 : List sxCu := [
  (4, (3, [(1, .ofNat 0, .ofNat 64), (2, .ofNat 0, .ofNat 201)], [(1, 2, .ofNat 0)], [(0, .inl 19), (1, .inr (false, (1, .ofNat 0))), (2, .inr (false, (2, .ofNat 0)))], [], [], [], []), ((0, 2, .ofNat 201), (0, 0, .ofNat 0), (0, 0, .ofNat 0)), 0, 0)]
set_option maxRecDepth 1000000 in
theorem cv258 {gh : sxGh} (hg : sxGd sxKw gh) : sxCtV sxKw gh ct258 := sxMeB_ok (cts := [ct254, ct255]) (cuts := cu258) (sp := []) 239 (by decide +kernel) hg (by decide) (by decide) (List.forall_mem_cons.mpr ⟨cv254 hg, (List.forall_mem_cons.mpr ⟨cv255 hg, (fun _ h => absurd h List.not_mem_nil)⟩)⟩)
/-- LotBeliefs.Tongue.tell -/
def ct259 : sxCt := (98, 1, (7, [(1, .ofNat 0, .ofNat 16), (2, .ofNat 0, .ofNat 16), (3, .negSucc 2147483647, .ofNat 2147483647), (4, .negSucc 2147483647, .ofNat 2147483647), (5, .ofNat 0, .ofNat 16), (6, .ofNat 0, .ofNat 17)], [], [(0, .inl 23), (1, .inl 11), (2, .inr (false, (1, .ofNat 0))), (3, .inr (false, (2, .ofNat 0))), (4, .inr (false, (3, .ofNat 0))), (5, .inr (false, (4, .ofNat 0))), (6, .inr (false, (5, .ofNat 0))), (7, .inr (false, (6, .ofNat 0)))], [], [], [], []), [(25, 0)], [
  (11, [(7, .negSucc 2147483647, .ofNat 2147483647), (8, .negSucc 2147483647, .ofNat 2147483647), (9, .ofNat 0, .ofNat 127), (10, .ofNat 0, .ofNat 127)], [], [], [], [(25, (0, .ofNat 0), .inr (false, (3, .ofNat 0))), (25, (0, .ofNat 1), .inr (false, (4, .ofNat 0))), (25, (0, .ofNat 2), .inr (false, (7, .ofNat 0))), (25, (0, .ofNat 3), .inr (false, (8, .ofNat 0))), (25, (0, .ofNat 4), .inr (false, (1, .ofNat 0))), (25, (0, .ofNat 5), .inr (false, (2, .ofNat 0))), (25, (0, .ofNat 6), .inr (false, (5, .ofNat 0))), (25, (0, .ofNat 7), .inr (false, (6, .ofNat 0))), (25, (0, .ofNat 8), .inr (false, (9, .ofNat 0))), (25, (0, .ofNat 9), .inr (false, (10, .ofNat 0)))], [], [])], [], 0, 0)
def cu259 : List sxCu := []
set_option maxRecDepth 1000000 in
theorem cv259 {gh : sxGh} (hg : sxGd sxKw gh) : sxCtV sxKw gh ct259 := sxMeB_ok (cts := [ct252]) (cuts := cu259) (sp := []) 132 (by decide +kernel) hg (by decide) (by decide) (List.forall_mem_cons.mpr ⟨cv252 hg, (fun _ h => absurd h List.not_mem_nil)⟩)
/-- LotBeliefs.Tongue.tell -/
def ct260 : sxCt := (98, 1, (7, [(1, .ofNat 0, .ofNat 16), (2, .ofNat 0, .ofNat 16), (3, .negSucc 2147483647, .ofNat 2147483647), (4, .negSucc 2147483647, .ofNat 2147483647), (5, .ofNat 0, .ofNat 16), (6, .ofNat 0, .ofNat 17)], [], [(0, .inl 19), (1, .inl 11), (2, .inr (false, (1, .ofNat 0))), (3, .inr (false, (2, .ofNat 0))), (4, .inr (false, (3, .ofNat 0))), (5, .inr (false, (4, .ofNat 0))), (6, .inr (false, (5, .ofNat 0))), (7, .inr (false, (6, .ofNat 0)))], [], [], [], []), [(21, 0)], [
  (11, [(7, .negSucc 2147483647, .ofNat 2147483647), (8, .negSucc 2147483647, .ofNat 2147483647), (9, .ofNat 0, .ofNat 127), (10, .ofNat 0, .ofNat 127)], [], [], [], [(21, (0, .ofNat 0), .inr (false, (3, .ofNat 0))), (21, (0, .ofNat 1), .inr (false, (4, .ofNat 0))), (21, (0, .ofNat 2), .inr (false, (7, .ofNat 0))), (21, (0, .ofNat 3), .inr (false, (8, .ofNat 0))), (21, (0, .ofNat 4), .inr (false, (1, .ofNat 0))), (21, (0, .ofNat 5), .inr (false, (2, .ofNat 0))), (21, (0, .ofNat 6), .inr (false, (5, .ofNat 0))), (21, (0, .ofNat 7), .inr (false, (6, .ofNat 0))), (21, (0, .ofNat 8), .inr (false, (9, .ofNat 0))), (21, (0, .ofNat 9), .inr (false, (10, .ofNat 0)))], [], [])], [], 0, 0)
def cu260 : List sxCu := []
set_option maxRecDepth 1000000 in
theorem cv260 {gh : sxGh} (hg : sxGd sxKw gh) : sxCtV sxKw gh ct260 := sxMeB_ok (cts := [ct252]) (cuts := cu260) (sp := []) 132 (by decide +kernel) hg (by decide) (by decide) (List.forall_mem_cons.mpr ⟨cv252 hg, (fun _ h => absurd h List.not_mem_nil)⟩)
/-- LotBeliefs.Tongue.tell -/
def ct261 : sxCt := (98, 1, (7, [(1, .ofNat 0, .ofNat 16), (2, .ofNat 0, .ofNat 16), (3, .negSucc 2147483647, .ofNat 2147483647), (4, .ofNat 0, .ofNat 1), (5, .ofNat 0, .ofNat 16), (6, .ofNat 0, .ofNat 17)], [], [(0, .inl 23), (1, .inl 3), (2, .inr (false, (1, .ofNat 0))), (3, .inr (false, (2, .ofNat 0))), (4, .inr (false, (3, .ofNat 0))), (5, .inr (false, (4, .ofNat 0))), (6, .inr (false, (5, .ofNat 0))), (7, .inr (false, (6, .ofNat 0)))], [], [], [], []), [(25, 0)], [
  (11, [(7, .negSucc 2147483647, .ofNat 2147483647), (8, .negSucc 2147483647, .ofNat 2147483647), (9, .ofNat 0, .ofNat 127), (10, .ofNat 0, .ofNat 127)], [], [], [], [(25, (0, .ofNat 0), .inr (false, (3, .ofNat 0))), (25, (0, .ofNat 1), .inr (false, (4, .ofNat 0))), (25, (0, .ofNat 2), .inr (false, (7, .ofNat 0))), (25, (0, .ofNat 3), .inr (false, (8, .ofNat 0))), (25, (0, .ofNat 4), .inr (false, (1, .ofNat 0))), (25, (0, .ofNat 5), .inr (false, (2, .ofNat 0))), (25, (0, .ofNat 6), .inr (false, (5, .ofNat 0))), (25, (0, .ofNat 7), .inr (false, (6, .ofNat 0))), (25, (0, .ofNat 8), .inr (false, (9, .ofNat 0))), (25, (0, .ofNat 9), .inr (false, (10, .ofNat 0)))], [], [])], [], 0, 0)
def cu261 : List sxCu := []
set_option maxRecDepth 1000000 in
theorem cv261 {gh : sxGh} (hg : sxGd sxKw gh) : sxCtV sxKw gh ct261 := sxMeB_ok (cts := [ct252]) (cuts := cu261) (sp := []) 132 (by decide +kernel) hg (by decide) (by decide) (List.forall_mem_cons.mpr ⟨cv252 hg, (fun _ h => absurd h List.not_mem_nil)⟩)
/-- LotBeliefs.Tongue.tell -/
def ct262 : sxCt := (98, 1, (7, [(1, .ofNat 0, .ofNat 16), (2, .ofNat 0, .ofNat 16), (3, .negSucc 2147483647, .ofNat 2147483647), (4, .ofNat 0, .ofNat 1), (5, .ofNat 0, .ofNat 16), (6, .ofNat 0, .ofNat 17)], [], [(0, .inl 19), (1, .inl 3), (2, .inr (false, (1, .ofNat 0))), (3, .inr (false, (2, .ofNat 0))), (4, .inr (false, (3, .ofNat 0))), (5, .inr (false, (4, .ofNat 0))), (6, .inr (false, (5, .ofNat 0))), (7, .inr (false, (6, .ofNat 0)))], [], [], [], []), [(21, 0)], [
  (11, [(7, .negSucc 2147483647, .ofNat 2147483647), (8, .negSucc 2147483647, .ofNat 2147483647), (9, .ofNat 0, .ofNat 127), (10, .ofNat 0, .ofNat 127)], [], [], [], [(21, (0, .ofNat 0), .inr (false, (3, .ofNat 0))), (21, (0, .ofNat 1), .inr (false, (4, .ofNat 0))), (21, (0, .ofNat 2), .inr (false, (7, .ofNat 0))), (21, (0, .ofNat 3), .inr (false, (8, .ofNat 0))), (21, (0, .ofNat 4), .inr (false, (1, .ofNat 0))), (21, (0, .ofNat 5), .inr (false, (2, .ofNat 0))), (21, (0, .ofNat 6), .inr (false, (5, .ofNat 0))), (21, (0, .ofNat 7), .inr (false, (6, .ofNat 0))), (21, (0, .ofNat 8), .inr (false, (9, .ofNat 0))), (21, (0, .ofNat 9), .inr (false, (10, .ofNat 0)))], [], [])], [], 0, 0)
def cu262 : List sxCu := []
set_option maxRecDepth 1000000 in
theorem cv262 {gh : sxGh} (hg : sxGd sxKw gh) : sxCtV sxKw gh ct262 := sxMeB_ok (cts := [ct252]) (cuts := cu262) (sp := []) 132 (by decide +kernel) hg (by decide) (by decide) (List.forall_mem_cons.mpr ⟨cv252 hg, (fun _ h => absurd h List.not_mem_nil)⟩)
/-- LotBeliefs.Tongue.tell -/
def ct263 : sxCt := (98, 1, (7, [(1, .ofNat 0, .ofNat 16), (2, .ofNat 0, .ofNat 16), (3, .negSucc 2147483647, .ofNat 2147483647), (4, .negSucc 2147483647, .ofNat 2147483647), (5, .ofNat 0, .ofNat 16), (6, .ofNat 0, .ofNat 17)], [], [(0, .inl 23), (1, .inl 3), (2, .inr (false, (1, .ofNat 0))), (3, .inr (false, (2, .ofNat 0))), (4, .inr (false, (3, .ofNat 0))), (5, .inr (false, (4, .ofNat 0))), (6, .inr (false, (5, .ofNat 0))), (7, .inr (false, (6, .ofNat 0)))], [], [], [], []), [(25, 0)], [
  (11, [(7, .negSucc 2147483647, .ofNat 2147483647), (8, .negSucc 2147483647, .ofNat 2147483647), (9, .ofNat 0, .ofNat 127), (10, .ofNat 0, .ofNat 127)], [], [], [], [(25, (0, .ofNat 0), .inr (false, (3, .ofNat 0))), (25, (0, .ofNat 1), .inr (false, (4, .ofNat 0))), (25, (0, .ofNat 2), .inr (false, (7, .ofNat 0))), (25, (0, .ofNat 3), .inr (false, (8, .ofNat 0))), (25, (0, .ofNat 4), .inr (false, (1, .ofNat 0))), (25, (0, .ofNat 5), .inr (false, (2, .ofNat 0))), (25, (0, .ofNat 6), .inr (false, (5, .ofNat 0))), (25, (0, .ofNat 7), .inr (false, (6, .ofNat 0))), (25, (0, .ofNat 8), .inr (false, (9, .ofNat 0))), (25, (0, .ofNat 9), .inr (false, (10, .ofNat 0)))], [], [])], [], 0, 0)
def cu263 : List sxCu := []
set_option maxRecDepth 1000000 in
theorem cv263 {gh : sxGh} (hg : sxGd sxKw gh) : sxCtV sxKw gh ct263 := sxMeB_ok (cts := [ct252]) (cuts := cu263) (sp := []) 132 (by decide +kernel) hg (by decide) (by decide) (List.forall_mem_cons.mpr ⟨cv252 hg, (fun _ h => absurd h List.not_mem_nil)⟩)
/-- LotBeliefs.Tongue.tell -/
def ct264 : sxCt := (98, 1, (7, [(1, .ofNat 0, .ofNat 16), (2, .ofNat 0, .ofNat 16), (3, .negSucc 2147483647, .ofNat 2147483647), (4, .negSucc 2147483647, .ofNat 2147483647), (5, .ofNat 0, .ofNat 16), (6, .ofNat 0, .ofNat 17)], [], [(0, .inl 19), (1, .inl 3), (2, .inr (false, (1, .ofNat 0))), (3, .inr (false, (2, .ofNat 0))), (4, .inr (false, (3, .ofNat 0))), (5, .inr (false, (4, .ofNat 0))), (6, .inr (false, (5, .ofNat 0))), (7, .inr (false, (6, .ofNat 0)))], [], [], [], []), [(21, 0)], [
  (11, [(7, .negSucc 2147483647, .ofNat 2147483647), (8, .negSucc 2147483647, .ofNat 2147483647), (9, .ofNat 0, .ofNat 127), (10, .ofNat 0, .ofNat 127)], [], [], [], [(21, (0, .ofNat 0), .inr (false, (3, .ofNat 0))), (21, (0, .ofNat 1), .inr (false, (4, .ofNat 0))), (21, (0, .ofNat 2), .inr (false, (7, .ofNat 0))), (21, (0, .ofNat 3), .inr (false, (8, .ofNat 0))), (21, (0, .ofNat 4), .inr (false, (1, .ofNat 0))), (21, (0, .ofNat 5), .inr (false, (2, .ofNat 0))), (21, (0, .ofNat 6), .inr (false, (5, .ofNat 0))), (21, (0, .ofNat 7), .inr (false, (6, .ofNat 0))), (21, (0, .ofNat 8), .inr (false, (9, .ofNat 0))), (21, (0, .ofNat 9), .inr (false, (10, .ofNat 0)))], [], [])], [], 0, 0)
def cu264 : List sxCu := []
set_option maxRecDepth 1000000 in
theorem cv264 {gh : sxGh} (hg : sxGd sxKw gh) : sxCtV sxKw gh ct264 := sxMeB_ok (cts := [ct252]) (cuts := cu264) (sp := []) 132 (by decide +kernel) hg (by decide) (by decide) (List.forall_mem_cons.mpr ⟨cv252 hg, (fun _ h => absurd h List.not_mem_nil)⟩)
/-- LotBeliefs.Course.whoFalls -/
def ct265 : sxCt := (9, 2, (4, [(1, .ofNat 0, .ofNat 16), (2, .ofNat 0, .ofNat 16), (3, .ofNat 0, .ofNat 16)], [], [(0, .inl 32), (1, .inr (false, (1, .ofNat 0))), (2, .inr (false, (2, .ofNat 0))), (3, .inr (false, (3, .ofNat 0)))], [], [], [], []), [(21, 0), (22, 0), (25, 0), (26, 0)], [
  (5, [(4, .ofNat 0, .ofNat 2147480647)], [], [], [.inr (false, (4, .ofNat 0))], [], [], [])], [], 0, 0)
def cu265 : List sxCu := []
set_option maxRecDepth 1000000 in
theorem cv265 {gh : sxGh} (hg : sxGd sxKw gh) : sxCtV sxKw gh ct265 := sxMeB_ok (cts := [ct257, ct261, ct262, ct253, ct259, ct260, ct263, ct264, ct256, ct258]) (cuts := cu265) (sp := []) 300 (by decide +kernel) hg (by decide) (by decide) (List.forall_mem_cons.mpr ⟨cv257 hg, (List.forall_mem_cons.mpr ⟨cv261 hg, (List.forall_mem_cons.mpr ⟨cv262 hg, (List.forall_mem_cons.mpr ⟨cv253 hg, (List.forall_mem_cons.mpr ⟨cv259 hg, (List.forall_mem_cons.mpr ⟨cv260 hg, (List.forall_mem_cons.mpr ⟨cv263 hg, (List.forall_mem_cons.mpr ⟨cv264 hg, (List.forall_mem_cons.mpr ⟨cv256 hg, (List.forall_mem_cons.mpr ⟨cv258 hg, (fun _ h => absurd h List.not_mem_nil)⟩)⟩)⟩)⟩)⟩)⟩)⟩)⟩)⟩)⟩)
/-- LotBeliefs.Course.stands -/
def ct266 : sxCt := (7, 3, (4, [(1, .ofNat 0, .ofNat 16), (2, .ofNat 0, .ofNat 16), (3, .ofNat 0, .ofNat 17)], [], [(0, .inl 32), (1, .inr (false, (1, .ofNat 0))), (2, .inr (false, (2, .ofNat 0)))], [], [(32, (0, .ofNat 10), .inr (false, (3, .ofNat 0)))], [], []), [(21, 0), (22, 0), (25, 0), (26, 0), (32, 11), (32, 12), (34000037, 0)], [
  (5, [(4, .negSucc 2147483647, .ofNat 2147483647)], [], [], [.inr (false, (0, .ofNat 1))], [(32, (0, .ofNat 10), .inr (false, (3, .ofNat 0))), (32, (0, .ofNat 11), .inr (false, (4, .ofNat 0)))], [], []), 
  (7, [(3, .ofNat 1, .ofNat 17), (4, .ofNat 0, .ofNat 1), (5, .ofNat 0, .ofNat 17), (6, .negSucc 2147483647, .ofNat 2147483647)], [(5, 3, .ofNat 0)], [], [.inr (false, (4, .ofNat 0))], [(32, (0, .ofNat 10), .inr (false, (5, .ofNat 0))), (32, (0, .ofNat 11), .inr (false, (6, .ofNat 0)))], [], [])], [], 0, 0)
def cu266 : List sxCu := [
  (38, (6, [(1, .ofNat 0, .ofNat 16), (2, .ofNat 0, .ofNat 16), (3, .ofNat 0, .ofNat 17), (4, .negSucc 2147483647, .ofNat 2147483647), (5, .negSucc 2147483647, .ofNat 2147483647)], [], [(0, .inl 32), (1, .inr (false, (1, .ofNat 0))), (2, .inr (false, (2, .ofNat 0))), (3, .inr (false, (4, .ofNat 0))), (4, .inr (false, (3, .ofNat 0))), (5, .inr (false, (0, .ofNat 0))), (6, .inr (false, (0, .ofNat 1))), (7, .inr (false, (0, .ofNat 0)))], [], [(32, (0, .ofNat 10), .inr (false, (3, .ofNat 0))), (32, (0, .ofNat 11), .inr (false, (5, .ofNat 0)))], [], []), ((0, 0, .ofNat 17), (0, 0, .ofNat 0), (0, 0, .ofNat 0)), 0, 0), 
  (38, (5, [(1, .ofNat 0, .ofNat 16), (2, .ofNat 0, .ofNat 16), (3, .ofNat 0, .ofNat 17), (4, .negSucc 2147483647, .ofNat 2147483647)], [], [(0, .inl 32), (1, .inr (false, (1, .ofNat 0))), (2, .inr (false, (2, .ofNat 0))), (3, .inr (false, (0, .ofNat 0))), (4, .inr (false, (0, .ofNat 0))), (5, .inr (false, (0, .ofNat 0))), (6, .inr (false, (0, .ofNat 1))), (7, .inr (false, (0, .ofNat 0)))], [], [(32, (0, .ofNat 10), .inr (false, (3, .ofNat 0))), (32, (0, .ofNat 11), .inr (false, (4, .ofNat 0)))], [], []), ((0, 0, .ofNat 17), (0, 0, .ofNat 0), (0, 0, .ofNat 0)), 0, 0), 
  (38, (11, [(1, .ofNat 0, .ofNat 16), (2, .ofNat 0, .ofNat 16), (3, .ofNat 1, .ofNat 17), (4, .negSucc 2147483647, .ofNat 2147483647), (5, .ofNat 0, .ofNat 1), (6, .ofNat 0, .ofNat 1), (7, .ofNat 0, .ofNat 16), (8, .negSucc 0, .ofNat 2147480647), (9, .ofNat 0, .ofNat 17), (10, .negSucc 2147483647, .ofNat 2147483647)], [(3, 9, .ofNat 1), (9, 3, .ofNat 0)], [(0, .inl 32), (1, .inr (false, (1, .ofNat 0))), (2, .inr (false, (2, .ofNat 0))), (3, .inr (false, (4, .ofNat 0))), (4, .inr (false, (3, .ofNat 0))), (5, .inr (false, (5, .ofNat 0))), (6, .inr (false, (6, .ofNat 0))), (7, .inr (false, (0, .ofNat 1))), (8, .inr (false, (7, .ofNat 0))), (9, .inr (false, (8, .ofNat 0)))], [], [(32, (0, .ofNat 9), .inl 37), (32, (0, .ofNat 10), .inr (false, (9, .ofNat 0))), (32, (0, .ofNat 11), .inr (false, (10, .ofNat 0))), (37, (0, .ofNat 0), .inr (false, (7, .ofNat 0)))], [], []), ((0, 0, .ofNat 16), (0, 0, .ofNat 0), (0, 0, .ofNat 0)), 0, 0), 
  (38, (11, [(1, .ofNat 0, .ofNat 16), (2, .ofNat 0, .ofNat 16), (3, .ofNat 10, .ofNat 17), (4, .negSucc 2147483647, .ofNat 2147483647), (5, .ofNat 0, .ofNat 10), (6, .ofNat 0, .ofNat 1), (7, .ofNat 0, .ofNat 16), (8, .negSucc 0, .ofNat 2147480647), (9, .ofNat 0, .ofNat 17), (10, .negSucc 2147483647, .ofNat 2147483647)], [(3, 9, .ofNat 10), (9, 3, .ofNat 0)], [(0, .inl 32), (1, .inr (false, (1, .ofNat 0))), (2, .inr (false, (2, .ofNat 0))), (3, .inr (false, (4, .ofNat 0))), (4, .inr (false, (3, .ofNat 0))), (5, .inr (false, (5, .ofNat 0))), (6, .inr (false, (6, .ofNat 0))), (7, .inr (false, (0, .ofNat 10))), (8, .inr (false, (7, .ofNat 0))), (9, .inr (false, (8, .ofNat 0)))], [], [(32, (0, .ofNat 9), .inl 37), (32, (0, .ofNat 10), .inr (false, (9, .ofNat 0))), (32, (0, .ofNat 11), .inr (false, (10, .ofNat 0)))], [], []), ((0, 0, .ofNat 7), (0, 0, .ofNat 0), (0, 0, .ofNat 0)), 0, 0), 
  (38, (11, [(1, .ofNat 0, .ofNat 16), (2, .ofNat 0, .ofNat 16), (3, .ofNat 11, .ofNat 17), (4, .negSucc 2147483647, .ofNat 2147483647), (5, .ofNat 0, .ofNat 11), (6, .ofNat 0, .ofNat 1), (7, .ofNat 0, .ofNat 16), (8, .negSucc 0, .ofNat 2147480647), (9, .ofNat 0, .ofNat 17), (10, .negSucc 2147483647, .ofNat 2147483647)], [(3, 9, .ofNat 11), (9, 3, .ofNat 0)], [(0, .inl 32), (1, .inr (false, (1, .ofNat 0))), (2, .inr (false, (2, .ofNat 0))), (3, .inr (false, (4, .ofNat 0))), (4, .inr (false, (3, .ofNat 0))), (5, .inr (false, (5, .ofNat 0))), (6, .inr (false, (6, .ofNat 0))), (7, .inr (false, (0, .ofNat 11))), (8, .inr (false, (7, .ofNat 0))), (9, .inr (false, (8, .ofNat 0)))], [], [(32, (0, .ofNat 9), .inl 37), (32, (0, .ofNat 10), .inr (false, (9, .ofNat 0))), (32, (0, .ofNat 11), .inr (false, (10, .ofNat 0)))], [], []), ((0, 0, .ofNat 6), (0, 0, .ofNat 0), (0, 0, .ofNat 0)), 0, 0), 
  (38, (11, [(1, .ofNat 0, .ofNat 16), (2, .ofNat 0, .ofNat 16), (3, .ofNat 12, .ofNat 17), (4, .negSucc 2147483647, .ofNat 2147483647), (5, .ofNat 0, .ofNat 12), (6, .ofNat 0, .ofNat 1), (7, .ofNat 0, .ofNat 16), (8, .negSucc 0, .ofNat 2147480647), (9, .ofNat 0, .ofNat 17), (10, .negSucc 2147483647, .ofNat 2147483647)], [(3, 9, .ofNat 12), (9, 3, .ofNat 0)], [(0, .inl 32), (1, .inr (false, (1, .ofNat 0))), (2, .inr (false, (2, .ofNat 0))), (3, .inr (false, (4, .ofNat 0))), (4, .inr (false, (3, .ofNat 0))), (5, .inr (false, (5, .ofNat 0))), (6, .inr (false, (6, .ofNat 0))), (7, .inr (false, (0, .ofNat 12))), (8, .inr (false, (7, .ofNat 0))), (9, .inr (false, (8, .ofNat 0)))], [], [(32, (0, .ofNat 9), .inl 37), (32, (0, .ofNat 10), .inr (false, (9, .ofNat 0))), (32, (0, .ofNat 11), .inr (false, (10, .ofNat 0)))], [], []), ((0, 0, .ofNat 5), (0, 0, .ofNat 0), (0, 0, .ofNat 0)), 0, 0), 
  (38, (11, [(1, .ofNat 0, .ofNat 16), (2, .ofNat 0, .ofNat 16), (3, .ofNat 13, .ofNat 17), (4, .negSucc 2147483647, .ofNat 2147483647), (5, .ofNat 0, .ofNat 13), (6, .ofNat 0, .ofNat 1), (7, .ofNat 0, .ofNat 16), (8, .negSucc 0, .ofNat 2147480647), (9, .ofNat 0, .ofNat 17), (10, .negSucc 2147483647, .ofNat 2147483647)], [(3, 9, .ofNat 13), (9, 3, .ofNat 0)], [(0, .inl 32), (1, .inr (false, (1, .ofNat 0))), (2, .inr (false, (2, .ofNat 0))), (3, .inr (false, (4, .ofNat 0))), (4, .inr (false, (3, .ofNat 0))), (5, .inr (false, (5, .ofNat 0))), (6, .inr (false, (6, .ofNat 0))), (7, .inr (false, (0, .ofNat 13))), (8, .inr (false, (7, .ofNat 0))), (9, .inr (false, (8, .ofNat 0)))], [], [(32, (0, .ofNat 9), .inl 37), (32, (0, .ofNat 10), .inr (false, (9, .ofNat 0))), (32, (0, .ofNat 11), .inr (false, (10, .ofNat 0)))], [], []), ((0, 0, .ofNat 4), (0, 0, .ofNat 0), (0, 0, .ofNat 0)), 0, 0), 
  (38, (11, [(1, .ofNat 0, .ofNat 16), (2, .ofNat 0, .ofNat 16), (3, .ofNat 14, .ofNat 17), (4, .negSucc 2147483647, .ofNat 2147483647), (5, .ofNat 0, .ofNat 14), (6, .ofNat 0, .ofNat 1), (7, .ofNat 0, .ofNat 16), (8, .negSucc 0, .ofNat 2147480647), (9, .ofNat 0, .ofNat 17), (10, .negSucc 2147483647, .ofNat 2147483647)], [(3, 9, .ofNat 14), (9, 3, .ofNat 0)], [(0, .inl 32), (1, .inr (false, (1, .ofNat 0))), (2, .inr (false, (2, .ofNat 0))), (3, .inr (false, (4, .ofNat 0))), (4, .inr (false, (3, .ofNat 0))), (5, .inr (false, (5, .ofNat 0))), (6, .inr (false, (6, .ofNat 0))), (7, .inr (false, (0, .ofNat 14))), (8, .inr (false, (7, .ofNat 0))), (9, .inr (false, (8, .ofNat 0)))], [], [(32, (0, .ofNat 9), .inl 37), (32, (0, .ofNat 10), .inr (false, (9, .ofNat 0))), (32, (0, .ofNat 11), .inr (false, (10, .ofNat 0)))], [], []), ((0, 0, .ofNat 3), (0, 0, .ofNat 0), (0, 0, .ofNat 0)), 0, 0), 
  (38, (11, [(1, .ofNat 0, .ofNat 16), (2, .ofNat 0, .ofNat 16), (3, .ofNat 15, .ofNat 17), (4, .negSucc 2147483647, .ofNat 2147483647), (5, .ofNat 0, .ofNat 15), (6, .ofNat 0, .ofNat 1), (7, .ofNat 0, .ofNat 16), (8, .negSucc 0, .ofNat 2147480647), (9, .ofNat 0, .ofNat 17), (10, .negSucc 2147483647, .ofNat 2147483647)], [(3, 9, .ofNat 15), (9, 3, .ofNat 0)], [(0, .inl 32), (1, .inr (false, (1, .ofNat 0))), (2, .inr (false, (2, .ofNat 0))), (3, .inr (false, (4, .ofNat 0))), (4, .inr (false, (3, .ofNat 0))), (5, .inr (false, (5, .ofNat 0))), (6, .inr (false, (6, .ofNat 0))), (7, .inr (false, (0, .ofNat 15))), (8, .inr (false, (7, .ofNat 0))), (9, .inr (false, (8, .ofNat 0)))], [], [(32, (0, .ofNat 9), .inl 37), (32, (0, .ofNat 10), .inr (false, (9, .ofNat 0))), (32, (0, .ofNat 11), .inr (false, (10, .ofNat 0)))], [], []), ((0, 0, .ofNat 2), (0, 0, .ofNat 0), (0, 0, .ofNat 0)), 0, 0), 
  (38, (11, [(1, .ofNat 0, .ofNat 16), (2, .ofNat 0, .ofNat 16), (3, .ofNat 16, .ofNat 17), (4, .negSucc 2147483647, .ofNat 2147483647), (5, .ofNat 0, .ofNat 16), (6, .ofNat 0, .ofNat 1), (7, .ofNat 0, .ofNat 16), (8, .negSucc 0, .ofNat 2147480647), (9, .ofNat 0, .ofNat 17), (10, .negSucc 2147483647, .ofNat 2147483647)], [(3, 9, .ofNat 16), (9, 3, .ofNat 0)], [(0, .inl 32), (1, .inr (false, (1, .ofNat 0))), (2, .inr (false, (2, .ofNat 0))), (3, .inr (false, (4, .ofNat 0))), (4, .inr (false, (3, .ofNat 0))), (5, .inr (false, (5, .ofNat 0))), (6, .inr (false, (6, .ofNat 0))), (7, .inr (false, (0, .ofNat 16))), (8, .inr (false, (7, .ofNat 0))), (9, .inr (false, (8, .ofNat 0)))], [], [(32, (0, .ofNat 9), .inl 37), (32, (0, .ofNat 10), .inr (false, (9, .ofNat 0))), (32, (0, .ofNat 11), .inr (false, (10, .ofNat 0)))], [], []), ((0, 0, .ofNat 1), (0, 0, .ofNat 0), (0, 0, .ofNat 0)), 0, 0), 
  (38, (11, [(1, .ofNat 0, .ofNat 16), (2, .ofNat 0, .ofNat 16), (3, .ofNat 17, .ofNat 17), (4, .negSucc 2147483647, .ofNat 2147483647), (5, .ofNat 0, .ofNat 17), (6, .ofNat 0, .ofNat 1), (7, .ofNat 0, .ofNat 16), (8, .negSucc 0, .ofNat 2147480647), (9, .ofNat 0, .ofNat 17), (10, .negSucc 2147483647, .ofNat 2147483647)], [], [(0, .inl 32), (1, .inr (false, (1, .ofNat 0))), (2, .inr (false, (2, .ofNat 0))), (3, .inr (false, (4, .ofNat 0))), (4, .inr (false, (3, .ofNat 0))), (5, .inr (false, (5, .ofNat 0))), (6, .inr (false, (6, .ofNat 0))), (7, .inr (false, (0, .ofNat 17))), (8, .inr (false, (7, .ofNat 0))), (9, .inr (false, (8, .ofNat 0)))], [], [(32, (0, .ofNat 9), .inl 37), (32, (0, .ofNat 10), .inr (false, (9, .ofNat 0))), (32, (0, .ofNat 11), .inr (false, (10, .ofNat 0)))], [], []), ((0, 0, .ofNat 0), (0, 0, .ofNat 0), (0, 0, .ofNat 0)), 0, 0), 
  (38, (11, [(1, .ofNat 0, .ofNat 16), (2, .ofNat 0, .ofNat 16), (3, .ofNat 2, .ofNat 17), (4, .negSucc 2147483647, .ofNat 2147483647), (5, .ofNat 0, .ofNat 2), (6, .ofNat 0, .ofNat 1), (7, .ofNat 0, .ofNat 16), (8, .negSucc 0, .ofNat 2147480647), (9, .ofNat 0, .ofNat 17), (10, .negSucc 2147483647, .ofNat 2147483647)], [(3, 9, .ofNat 2), (9, 3, .ofNat 0)], [(0, .inl 32), (1, .inr (false, (1, .ofNat 0))), (2, .inr (false, (2, .ofNat 0))), (3, .inr (false, (4, .ofNat 0))), (4, .inr (false, (3, .ofNat 0))), (5, .inr (false, (5, .ofNat 0))), (6, .inr (false, (6, .ofNat 0))), (7, .inr (false, (0, .ofNat 2))), (8, .inr (false, (7, .ofNat 0))), (9, .inr (false, (8, .ofNat 0)))], [], [(32, (0, .ofNat 9), .inl 37), (32, (0, .ofNat 10), .inr (false, (9, .ofNat 0))), (32, (0, .ofNat 11), .inr (false, (10, .ofNat 0)))], [], []), ((0, 0, .ofNat 15), (0, 0, .ofNat 0), (0, 0, .ofNat 0)), 0, 0), 
  (38, (11, [(1, .ofNat 0, .ofNat 16), (2, .ofNat 0, .ofNat 16), (3, .ofNat 3, .ofNat 17), (4, .negSucc 2147483647, .ofNat 2147483647), (5, .ofNat 0, .ofNat 3), (6, .ofNat 0, .ofNat 1), (7, .ofNat 0, .ofNat 16), (8, .negSucc 0, .ofNat 2147480647), (9, .ofNat 0, .ofNat 17), (10, .negSucc 2147483647, .ofNat 2147483647)], [(3, 9, .ofNat 3), (9, 3, .ofNat 0)], [(0, .inl 32), (1, .inr (false, (1, .ofNat 0))), (2, .inr (false, (2, .ofNat 0))), (3, .inr (false, (4, .ofNat 0))), (4, .inr (false, (3, .ofNat 0))), (5, .inr (false, (5, .ofNat 0))), (6, .inr (false, (6, .ofNat 0))), (7, .inr (false, (0, .ofNat 3))), (8, .inr (false, (7, .ofNat 0))), (9, .inr (false, (8, .ofNat 0)))], [], [(32, (0, .ofNat 9), .inl 37), (32, (0, .ofNat 10), .inr (false, (9, .ofNat 0))), (32, (0, .ofNat 11), .inr (false, (10, .ofNat 0)))], [], []), ((0, 0, .ofNat 14), (0, 0, .ofNat 0), (0, 0, .ofNat 0)), 0, 0), 
  (38, (11, [(1, .ofNat 0, .ofNat 16), (2, .ofNat 0, .ofNat 16), (3, .ofNat 4, .ofNat 17), (4, .negSucc 2147483647, .ofNat 2147483647), (5, .ofNat 0, .ofNat 4), (6, .ofNat 0, .ofNat 1), (7, .ofNat 0, .ofNat 16), (8, .negSucc 0, .ofNat 2147480647), (9, .ofNat 0, .ofNat 17), (10, .negSucc 2147483647, .ofNat 2147483647)], [(3, 9, .ofNat 4), (9, 3, .ofNat 0)], [(0, .inl 32), (1, .inr (false, (1, .ofNat 0))), (2, .inr (false, (2, .ofNat 0))), (3, .inr (false, (4, .ofNat 0))), (4, .inr (false, (3, .ofNat 0))), (5, .inr (false, (5, .ofNat 0))), (6, .inr (false, (6, .ofNat 0))), (7, .inr (false, (0, .ofNat 4))), (8, .inr (false, (7, .ofNat 0))), (9, .inr (false, (8, .ofNat 0)))], [], [(32, (0, .ofNat 9), .inl 37), (32, (0, .ofNat 10), .inr (false, (9, .ofNat 0))), (32, (0, .ofNat 11), .inr (false, (10, .ofNat 0)))], [], []), ((0, 0, .ofNat 13), (0, 0, .ofNat 0), (0, 0, .ofNat 0)), 0, 0), 
  (38, (11, [(1, .ofNat 0, .ofNat 16), (2, .ofNat 0, .ofNat 16), (3, .ofNat 5, .ofNat 17), (4, .negSucc 2147483647, .ofNat 2147483647), (5, .ofNat 0, .ofNat 5), (6, .ofNat 0, .ofNat 1), (7, .ofNat 0, .ofNat 16), (8, .negSucc 0, .ofNat 2147480647), (9, .ofNat 0, .ofNat 17), (10, .negSucc 2147483647, .ofNat 2147483647)], [(3, 9, .ofNat 5), (9, 3, .ofNat 0)], [(0, .inl 32), (1, .inr (false, (1, .ofNat 0))), (2, .inr (false, (2, .ofNat 0))), (3, .inr (false, (4, .ofNat 0))), (4, .inr (false, (3, .ofNat 0))), (5, .inr (false, (5, .ofNat 0))), (6, .inr (false, (6, .ofNat 0))), (7, .inr (false, (0, .ofNat 5))), (8, .inr (false, (7, .ofNat 0))), (9, .inr (false, (8, .ofNat 0)))], [], [(32, (0, .ofNat 9), .inl 37), (32, (0, .ofNat 10), .inr (false, (9, .ofNat 0))), (32, (0, .ofNat 11), .inr (false, (10, .ofNat 0)))], [], []), ((0, 0, .ofNat 12), (0, 0, .ofNat 0), (0, 0, .ofNat 0)), 0, 0), 
  (38, (11, [(1, .ofNat 0, .ofNat 16), (2, .ofNat 0, .ofNat 16), (3, .ofNat 6, .ofNat 17), (4, .negSucc 2147483647, .ofNat 2147483647), (5, .ofNat 0, .ofNat 6), (6, .ofNat 0, .ofNat 1), (7, .ofNat 0, .ofNat 16), (8, .negSucc 0, .ofNat 2147480647), (9, .ofNat 0, .ofNat 17), (10, .negSucc 2147483647, .ofNat 2147483647)], [(3, 9, .ofNat 6), (9, 3, .ofNat 0)], [(0, .inl 32), (1, .inr (false, (1, .ofNat 0))), (2, .inr (false, (2, .ofNat 0))), (3, .inr (false, (4, .ofNat 0))), (4, .inr (false, (3, .ofNat 0))), (5, .inr (false, (5, .ofNat 0))), (6, .inr (false, (6, .ofNat 0))), (7, .inr (false, (0, .ofNat 6))), (8, .inr (false, (7, .ofNat 0))), (9, .inr (false, (8, .ofNat 0)))], [], [(32, (0, .ofNat 9), .inl 37), (32, (0, .ofNat 10), .inr (false, (9, .ofNat 0))), (32, (0, .ofNat 11), .inr (false, (10, .ofNat 0)))], [], []), ((0, 0, .ofNat 11), (0, 0, .ofNat 0), (0, 0, .ofNat 0)), 0, 0), 
  (38, (11, [(1, .ofNat 0, .ofNat 16), (2, .ofNat 0, .ofNat 16), (3, .ofNat 7, .ofNat 17), (4, .negSucc 2147483647, .ofNat 2147483647), (5, .ofNat 0, .ofNat 7), (6, .ofNat 0, .ofNat 1), (7, .ofNat 0, .ofNat 16), (8, .negSucc 0, .ofNat 2147480647), (9, .ofNat 0, .ofNat 17), (10, .negSucc 2147483647, .ofNat 2147483647)], [(3, 9, .ofNat 7), (9, 3, .ofNat 0)], [(0, .inl 32), (1, .inr (false, (1, .ofNat 0))), (2, .inr (false, (2, .ofNat 0))), (3, .inr (false, (4, .ofNat 0))), (4, .inr (false, (3, .ofNat 0))), (5, .inr (false, (5, .ofNat 0))), (6, .inr (false, (6, .ofNat 0))), (7, .inr (false, (0, .ofNat 7))), (8, .inr (false, (7, .ofNat 0))), (9, .inr (false, (8, .ofNat 0)))], [], [(32, (0, .ofNat 9), .inl 37), (32, (0, .ofNat 10), .inr (false, (9, .ofNat 0))), (32, (0, .ofNat 11), .inr (false, (10, .ofNat 0)))], [], []), ((0, 0, .ofNat 10), (0, 0, .ofNat 0), (0, 0, .ofNat 0)), 0, 0), 
  (38, (11, [(1, .ofNat 0, .ofNat 16), (2, .ofNat 0, .ofNat 16), (3, .ofNat 8, .ofNat 17), (4, .negSucc 2147483647, .ofNat 2147483647), (5, .ofNat 0, .ofNat 8), (6, .ofNat 0, .ofNat 1), (7, .ofNat 0, .ofNat 16), (8, .negSucc 0, .ofNat 2147480647), (9, .ofNat 0, .ofNat 17), (10, .negSucc 2147483647, .ofNat 2147483647)], [(3, 9, .ofNat 8), (9, 3, .ofNat 0)], [(0, .inl 32), (1, .inr (false, (1, .ofNat 0))), (2, .inr (false, (2, .ofNat 0))), (3, .inr (false, (4, .ofNat 0))), (4, .inr (false, (3, .ofNat 0))), (5, .inr (false, (5, .ofNat 0))), (6, .inr (false, (6, .ofNat 0))), (7, .inr (false, (0, .ofNat 8))), (8, .inr (false, (7, .ofNat 0))), (9, .inr (false, (8, .ofNat 0)))], [], [(32, (0, .ofNat 9), .inl 37), (32, (0, .ofNat 10), .inr (false, (9, .ofNat 0))), (32, (0, .ofNat 11), .inr (false, (10, .ofNat 0)))], [], []), ((0, 0, .ofNat 9), (0, 0, .ofNat 0), (0, 0, .ofNat 0)), 0, 0), 
  (38, (11, [(1, .ofNat 0, .ofNat 16), (2, .ofNat 0, .ofNat 16), (3, .ofNat 9, .ofNat 17), (4, .negSucc 2147483647, .ofNat 2147483647), (5, .ofNat 0, .ofNat 9), (6, .ofNat 0, .ofNat 1), (7, .ofNat 0, .ofNat 16), (8, .negSucc 0, .ofNat 2147480647), (9, .ofNat 0, .ofNat 17), (10, .negSucc 2147483647, .ofNat 2147483647)], [(3, 9, .ofNat 9), (9, 3, .ofNat 0)], [(0, .inl 32), (1, .inr (false, (1, .ofNat 0))), (2, .inr (false, (2, .ofNat 0))), (3, .inr (false, (4, .ofNat 0))), (4, .inr (false, (3, .ofNat 0))), (5, .inr (false, (5, .ofNat 0))), (6, .inr (false, (6, .ofNat 0))), (7, .inr (false, (0, .ofNat 9))), (8, .inr (false, (7, .ofNat 0))), (9, .inr (false, (8, .ofNat 0)))], [], [(32, (0, .ofNat 9), .inl 37), (32, (0, .ofNat 10), .inr (false, (9, .ofNat 0))), (32, (0, .ofNat 11), .inr (false, (10, .ofNat 0)))], [], []), ((0, 0, .ofNat 8), (0, 0, .ofNat 0), (0, 0, .ofNat 0)), 0, 0)]
set_option maxRecDepth 1000000 in
theorem cv266 {gh : sxGh} (hg : sxGd sxKw gh) : sxCtV sxKw gh ct266 := sxMeB_ok (cts := [ct265]) (cuts := cu266) (sp := []) 3965 (by decide +kernel) hg (by decide) (by decide) (List.forall_mem_cons.mpr ⟨cv265 hg, (fun _ h => absurd h List.not_mem_nil)⟩)
/-- LotBeliefs.Course.bury -/
def ct267 : sxCt := (5, 1, (2, [(1, .ofNat 0, .ofNat 51)], [], [(0, .inl 32), (1, .inr (false, (1, .ofNat 0)))], [], [], [], []), [(32, 11), (32, 12), (34, 0), (36, 0), (37, 0)], [
  (3, [(2, .negSucc 2147483647, .ofNat 2147483647)], [], [], [], [(32, (0, .ofNat 11), .inr (false, (2, .ofNat 0)))], [], [])], [], 0, 0)
def cu267 : List sxCu := [
  (22, (5, [(1, .ofNat 0, .ofNat 51), (2, .ofNat 0, .ofNat 17), (3, .ofNat 0, .ofNat 17), (4, .negSucc 2147483647, .ofNat 2147483647)], [(2, 3, .ofNat 0)], [(0, .inl 32), (1, .inr (false, (1, .ofNat 0))), (2, .inr (false, (2, .ofNat 0))), (3, .inr (false, (3, .ofNat 0)))], [], [(32, (0, .ofNat 11), .inr (false, (4, .ofNat 0)))], [], []), ((0, 3, .ofNat 17), (0, 0, .ofNat 0), (0, 0, .ofNat 0)), 0, 0)]
set_option maxRecDepth 1000000 in
theorem cv267 {gh : sxGh} (hg : sxGd sxKw gh) : sxCtV sxKw gh ct267 := sxMeB_ok (cts := [ct248, ct249]) (cuts := cu267) (sp := []) 185 (by decide +kernel) hg (by decide) (by decide) (List.forall_mem_cons.mpr ⟨cv248 hg, (List.forall_mem_cons.mpr ⟨cv249 hg, (fun _ h => absurd h List.not_mem_nil)⟩)⟩)
/-- LotBeliefs.Course.bury -/
def ct276 : sxCt := (5, 1, (2, [(1, .ofNat 0, .ofNat 6)], [], [(0, .inl 32), (1, .inr (false, (1, .ofNat 0)))], [], [], [], []), [(32, 11), (32, 12), (34, 0), (36, 0), (37, 0)], [
  (3, [(2, .negSucc 2147483647, .ofNat 2147483647)], [], [], [], [(32, (0, .ofNat 11), .inr (false, (2, .ofNat 0)))], [], [])], [], 0, 0)
def cu276 : List sxCu := [
  (22, (5, [(1, .ofNat 0, .ofNat 6), (2, .ofNat 0, .ofNat 17), (3, .ofNat 0, .ofNat 17), (4, .negSucc 2147483647, .ofNat 2147483647)], [(2, 3, .ofNat 0)], [(0, .inl 32), (1, .inr (false, (1, .ofNat 0))), (2, .inr (false, (2, .ofNat 0))), (3, .inr (false, (3, .ofNat 0)))], [], [(32, (0, .ofNat 11), .inr (false, (4, .ofNat 0)))], [], []), ((0, 3, .ofNat 17), (0, 0, .ofNat 0), (0, 0, .ofNat 0)), 0, 0)]
set_option maxRecDepth 1000000 in
theorem cv276 {gh : sxGh} (hg : sxGd sxKw gh) : sxCtV sxKw gh ct276 := sxMeB_ok (cts := [ct248, ct249]) (cuts := cu276) (sp := []) 185 (by decide +kernel) hg (by decide) (by decide) (List.forall_mem_cons.mpr ⟨cv248 hg, (List.forall_mem_cons.mpr ⟨cv249 hg, (fun _ h => absurd h List.not_mem_nil)⟩)⟩)
/-- LotBeliefs.Course.bury -/
def ct284 : sxCt := (5, 1, (2, [(1, .ofNat 0, .ofNat 11)], [], [(0, .inl 32), (1, .inr (false, (1, .ofNat 0)))], [], [], [], []), [(32, 11), (32, 12), (34, 0), (36, 0), (37, 0)], [
  (3, [(2, .negSucc 2147483647, .ofNat 2147483647)], [], [], [], [(32, (0, .ofNat 11), .inr (false, (2, .ofNat 0)))], [], [])], [], 0, 0)
def cu284 : List sxCu := [
  (22, (5, [(1, .ofNat 0, .ofNat 11), (2, .ofNat 0, .ofNat 17), (3, .ofNat 0, .ofNat 17), (4, .negSucc 2147483647, .ofNat 2147483647)], [(2, 3, .ofNat 0)], [(0, .inl 32), (1, .inr (false, (1, .ofNat 0))), (2, .inr (false, (2, .ofNat 0))), (3, .inr (false, (3, .ofNat 0)))], [], [(32, (0, .ofNat 11), .inr (false, (4, .ofNat 0)))], [], []), ((0, 3, .ofNat 17), (0, 0, .ofNat 0), (0, 0, .ofNat 0)), 0, 0)]
set_option maxRecDepth 1000000 in
theorem cv284 {gh : sxGh} (hg : sxGd sxKw gh) : sxCtV sxKw gh ct284 := sxMeB_ok (cts := [ct248, ct249]) (cuts := cu284) (sp := []) 185 (by decide +kernel) hg (by decide) (by decide) (List.forall_mem_cons.mpr ⟨cv248 hg, (List.forall_mem_cons.mpr ⟨cv249 hg, (fun _ h => absurd h List.not_mem_nil)⟩)⟩)
/-- LotBeliefs.Course.lives -/
def ct285 : sxCt := (6, 0, (3, [(1, .ofNat 0, .ofNat 16), (2, .ofNat 0, .ofNat 11)], [], [(0, .inl 32), (1, .inr (false, (1, .ofNat 0))), (2, .inr (false, (2, .ofNat 0)))], [], [], [], []), [(33000036, 0)], [
  (3, [], [], [], [.inr (false, (0, .ofNat 0))], [], [], []), 
  (3, [], [], [], [.inr (false, (0, .ofNat 1))], [], [], [])], [], 0, 0)
def cu285 : List sxCu := []
set_option maxRecDepth 1000000 in
theorem cv285 {gh : sxGh} (hg : sxGd sxKw gh) : sxCtV sxKw gh ct285 := sxMeB_ok (cts := []) (cuts := cu285) (sp := []) 196 (by decide +kernel) hg (by decide) (by decide) (fun _ h => absurd h List.not_mem_nil)
/-- LotBeliefs.Course.play -/
def ct286 : sxCt := (2, 4, (3, [(1, .ofNat 0, .ofNat 12), (2, .ofNat 0, .ofNat 1)], [], [(0, .inl 32), (1, .inl 28), (2, .inr (false, (1, .ofNat 0))), (3, .inr (false, (2, .ofNat 0)))], [], [], [], []), [(21, 0), (22, 0), (25, 0), (26, 0), (32, 9), (32, 11), (32, 12), (33000037, 0)], [
  (5, [(3, .ofNat 0, .ofNat 4095), (4, .negSucc 2147483647, .ofNat 2147483647)], [], [], [], [(32, (0, .ofNat 8), .inr (false, (3, .ofNat 0))), (32, (0, .ofNat 11), .inr (false, (4, .ofNat 0)))], [], [])], [], 0, 0)
def cu286 : List sxCu := [
  (9, (4, [(1, .ofNat 0, .ofNat 12), (2, .ofNat 0, .ofNat 1), (3, .ofNat 0, .ofNat 12)], [(2, 3, .ofNat 0), (3, 1, .ofNat 1)], [(0, .inl 32), (1, .inl 28), (2, .inr (false, (1, .ofNat 0))), (3, .inr (false, (2, .ofNat 0))), (4, .inr (false, (3, .ofNat 0)))], [], [], [], []), ((0, 3, .ofNat 12), (0, 0, .ofNat 0), (0, 0, .ofNat 0)), 0, 0)]
set_option maxRecDepth 1000000 in
theorem cv286 {gh : sxGh} (hg : sxGd sxKw gh) : sxCtV sxKw gh ct286 := sxMeB_ok (cts := [ct247, ct246, ct284, ct267, ct285, ct266]) (cuts := cu286) (sp := []) 132 (by decide +kernel) hg (by decide) (by decide) (List.forall_mem_cons.mpr ⟨cv247 hg, (List.forall_mem_cons.mpr ⟨cv246 hg, (List.forall_mem_cons.mpr ⟨cv284 hg, (List.forall_mem_cons.mpr ⟨cv267 hg, (List.forall_mem_cons.mpr ⟨cv285 hg, (List.forall_mem_cons.mpr ⟨cv266 hg, (fun _ h => absurd h List.not_mem_nil)⟩)⟩)⟩)⟩)⟩)⟩)
/-- LotBeliefs.Course.seatedBehind -/
def ct287 : sxCt := (14, 0, (2, [(1, .ofNat 0, .ofNat 51)], [], [(0, .inl 32), (1, .inr (false, (1, .ofNat 0)))], [], [], [], []), [], [
  (3, [(2, .ofNat 0, .ofNat 4095)], [], [], [.inr (false, (2, .ofNat 0))], [], [], [])], [], 0, 0)
def cu287 : List sxCu := [
  (4, (4, [(1, .ofNat 0, .ofNat 51), (2, .ofNat 0, .ofNat 4095), (3, .ofNat 0, .ofNat 12)], [], [(0, .inl 32), (1, .inr (false, (1, .ofNat 0))), (2, .inr (false, (2, .ofNat 0))), (3, .inr (false, (3, .ofNat 0)))], [], [], [], []), ((0, 3, .ofNat 12), (0, 0, .ofNat 0), (0, 0, .ofNat 0)), 0, 0)]
set_option maxRecDepth 1000000 in
theorem cv287 {gh : sxGh} (hg : sxGd sxKw gh) : sxCtV sxKw gh ct287 := sxMeB_ok (cts := []) (cuts := cu287) (sp := []) 139 (by decide +kernel) hg (by decide) (by decide) (fun _ h => absurd h List.not_mem_nil)
/-- LotBeliefsModel.rowAsOrder -/
def ct288 : sxCt := (270, 0, (1, [], [], [(0, .inl 78)], [], [], [], []), [(78, 44), (560, 0)], [
  (2, [(1, .ofNat 0, .ofNat 12)], [], [], [], [(78, (0, .ofNat 43), .inr (false, (1, .ofNat 0)))], [], [])], [], 0, 0)
def cu288 : List sxCu := [
  (12, (3, [(1, .ofNat 0, .ofNat 12), (2, .ofNat 0, .ofNat 12)], [], [(0, .inl 78), (1, .inr (false, (1, .ofNat 0)))], [], [(78, (0, .ofNat 12), .inl 82), (78, (0, .ofNat 43), .inr (false, (2, .ofNat 0))), (82, (0, .ofNat 1), .inr (false, (2, .ofNat 0)))], [], []), ((0, 1, .ofNat 12), (0, 0, .ofNat 0), (0, 0, .ofNat 0)), 0, 0)]
set_option maxRecDepth 1000000 in
theorem cv288 {gh : sxGh} (hg : sxGd sxKw gh) : sxCtV sxKw gh ct288 := sxMeB_ok (cts := []) (cuts := cu288) (sp := []) 83 (by decide +kernel) hg (by decide) (by decide) (fun _ h => absurd h List.not_mem_nil)
/-- LotBeliefsModel.begins -/
def ct289 : sxCt := (260, 0, (2, [(1, .ofNat 0, .ofNat 4)], [], [(0, .inl 78), (1, .inr (false, (1, .ofNat 0)))], [], [], [], []), [(78, 45), (78, 46), (78, 47), (78, 48), (78, 49), (562000566, 0)], [
  (2, [], [], [], [], [(78, (0, .ofNat 44), .inr (false, (0, .ofNat 0))), (78, (0, .ofNat 45), .inr (false, (0, .ofNat 0))), (78, (0, .ofNat 46), .inr (false, (0, .ofNat 0))), (78, (0, .ofNat 47), .inr (false, (0, .ofNat 0))), (78, (0, .ofNat 48), .inr (false, (1, .ofNat 0)))], [], [])], [], 0, 0)
def cu289 : List sxCu := [
  (27, (3, [(1, .ofNat 0, .ofNat 4), (2, .ofNat 0, .ofNat 17)], [], [(0, .inl 78), (1, .inr (false, (1, .ofNat 0))), (2, .inr (false, (2, .ofNat 0)))], [], [(78, (0, .ofNat 44), .inr (false, (0, .ofNat 0))), (78, (0, .ofNat 45), .inr (false, (0, .ofNat 0))), (78, (0, .ofNat 46), .inr (false, (0, .ofNat 0))), (78, (0, .ofNat 47), .inr (false, (0, .ofNat 0))), (78, (0, .ofNat 48), .inr (false, (1, .ofNat 0)))], [], []), ((0, 2, .ofNat 17), (0, 0, .ofNat 0), (0, 0, .ofNat 0)), 0, 0)]
set_option maxRecDepth 1000000 in
theorem cv289 {gh : sxGh} (hg : sxGd sxKw gh) : sxCtV sxKw gh ct289 := sxMeB_ok (cts := []) (cuts := cu289) (sp := []) 108 (by decide +kernel) hg (by decide) (by decide) (fun _ h => absurd h List.not_mem_nil)
/-- LotBeliefsModel.ages -/
def ct306 : sxCt := (267, 1, (2, [(1, .ofNat 0, .ofNat 17)], [], [(0, .inl 78)], [], [(78, (0, .ofNat 44), .inr (false, (1, .ofNat 0)))], [], []), [(78, 48), (565, 0), (566, 0)], [
  (2, [], [], [], [], [(78, (0, .ofNat 44), .inr (false, (1, .ofNat 0)))], [], [])], [], 0, 0)
def cu306 : List sxCu := [
  (2, (3, [(1, .ofNat 0, .ofNat 17), (2, .ofNat 0, .ofNat 17)], [], [(0, .inl 78), (1, .inr (false, (2, .ofNat 0)))], [], [(78, (0, .ofNat 44), .inr (false, (1, .ofNat 0)))], [], []), ((0, 2, .ofNat 17), (0, 0, .ofNat 0), (0, 0, .ofNat 0)), 0, 0)]
set_option maxRecDepth 1000000 in
theorem cv306 {gh : sxGh} (hg : sxGd sxKw gh) : sxCtV sxKw gh ct306 := sxMeB_ok (cts := []) (cuts := cu306) (sp := []) 124 (by decide +kernel) hg (by decide) (by decide) (fun _ h => absurd h List.not_mem_nil)
/-- LotBeliefsModel.heldNow -/
def ct307 : sxCt := (268, 0, (2, [(1, .ofNat 0, .ofNat 17)], [], [(0, .inl 78)], [], [(78, (0, .ofNat 44), .inr (false, (1, .ofNat 0)))], [], []), [], [
  (3, [(2, .ofNat 0, .ofNat 131071)], [], [], [.inr (false, (2, .ofNat 0))], [(78, (0, .ofNat 44), .inr (false, (1, .ofNat 0)))], [], [])], [], 0, 0)
def cu307 : List sxCu := [
  (4, (4, [(1, .ofNat 0, .ofNat 17), (2, .ofNat 0, .ofNat 131071), (3, .ofNat 0, .ofNat 17)], [], [(0, .inl 78), (1, .inr (false, (2, .ofNat 0))), (2, .inr (false, (3, .ofNat 0)))], [], [(78, (0, .ofNat 44), .inr (false, (1, .ofNat 0)))], [], []), ((0, 3, .ofNat 17), (0, 0, .ofNat 0), (0, 0, .ofNat 0)), 0, 0)]
set_option maxRecDepth 1000000 in
theorem cv307 {gh : sxGh} (hg : sxGd sxKw gh) : sxCtV sxKw gh ct307 := sxMeB_ok (cts := []) (cuts := cu307) (sp := []) 81 (by decide +kernel) hg (by decide) (by decide) (fun _ h => absurd h List.not_mem_nil)
/-- LotBeliefsModel.ages -/
def ct308 : sxCt := (267, 1, (2, [(1, .ofNat 0, .ofNat 17)], [], [(0, .inl 78)], [], [(78, (0, .ofNat 44), .inr (false, (1, .ofNat 0)))], [(561, (1, .ofNat 0), .inr (false, .ofNat 0, .ofNat 6))], []), [(78, 48), (565, 0), (566, 0)], [
  (2, [], [], [], [], [(78, (0, .ofNat 44), .inr (false, (1, .ofNat 0)))], [(561, (1, .ofNat 0), .inr (false, .ofNat 0, .ofNat 6))], [])], [], 0, 0)
def cu308 : List sxCu := [
  (2, (3, [(1, .ofNat 0, .ofNat 17), (2, .ofNat 0, .ofNat 17)], [], [(0, .inl 78), (1, .inr (false, (2, .ofNat 0)))], [], [(78, (0, .ofNat 44), .inr (false, (1, .ofNat 0)))], [(561, (1, .ofNat 0), .inr (false, .ofNat 0, .ofNat 6))], []), ((0, 2, .ofNat 17), (0, 0, .ofNat 0), (0, 0, .ofNat 0)), 0, 0)]
set_option maxRecDepth 1000000 in
theorem cv308 {gh : sxGh} (hg : sxGd sxKw gh) : sxCtV sxKw gh ct308 := sxMeB_ok (cts := []) (cuts := cu308) (sp := []) 124 (by decide +kernel) hg (by decide) (by decide) (fun _ h => absurd h List.not_mem_nil)
/-- LotBeliefsModel.heldNow -/
def ct309 : sxCt := (268, 0, (2, [(1, .ofNat 0, .ofNat 17)], [], [(0, .inl 78)], [], [(78, (0, .ofNat 44), .inr (false, (1, .ofNat 0)))], [(561, (1, .ofNat 0), .inr (false, .ofNat 0, .ofNat 6))], []), [], [
  (3, [(2, .ofNat 0, .ofNat 127)], [], [], [.inr (false, (2, .ofNat 0))], [(78, (0, .ofNat 44), .inr (false, (1, .ofNat 0)))], [(561, (1, .ofNat 0), .inr (false, .ofNat 0, .ofNat 6))], [])], [], 0, 0)
def cu309 : List sxCu := [
  (4, (4, [(1, .ofNat 0, .ofNat 17), (2, .ofNat 0, .ofNat 127), (3, .ofNat 0, .ofNat 17)], [(2, 3, .ofNat 126)], [(0, .inl 78), (1, .inr (false, (2, .ofNat 0))), (2, .inr (false, (3, .ofNat 0)))], [], [(78, (0, .ofNat 44), .inr (false, (1, .ofNat 0)))], [(561, (1, .ofNat 0), .inr (false, .ofNat 0, .ofNat 6))], []), ((0, 3, .ofNat 17), (0, 0, .ofNat 0), (0, 0, .ofNat 0)), 0, 0)]
set_option maxRecDepth 1000000 in
theorem cv309 {gh : sxGh} (hg : sxGd sxKw gh) : sxCtV sxKw gh ct309 := sxMeB_ok (cts := []) (cuts := cu309) (sp := []) 81 (by decide +kernel) hg (by decide) (by decide) (fun _ h => absurd h List.not_mem_nil)
/-- LotBeliefsModel.leaves -/
def ct350 : sxCt := (262, 0, (3, [(1, .ofNat 0, .ofNat 10), (2, .ofNat 1, .ofNat 17)], [], [(0, .inl 78), (1, .inr (false, (1, .ofNat 0)))], [], [(78, (0, .ofNat 44), .inr (false, (2, .ofNat 0)))], [], []), [(78, 45), (561, 0)], [
  (3, [], [], [], [], [(78, (0, .ofNat 44), .inr (false, (2, .negSucc 0)))], [], [])], [], 0, 0)
def cu350 : List sxCu := [
  (12, (4, [(1, .ofNat 0, .ofNat 10), (2, .ofNat 1, .ofNat 17), (3, .ofNat 0, .ofNat 16)], [(1, 3, .ofNat 0), (3, 2, .ofNat 9)], [(0, .inl 78), (1, .inr (false, (1, .ofNat 0))), (2, .inr (false, (3, .ofNat 0)))], [], [(78, (0, .ofNat 44), .inr (false, (2, .negSucc 0)))], [], []), ((0, 3, .ofNat 16), (0, 0, .ofNat 0), (0, 0, .ofNat 0)), 0, 0)]
set_option maxRecDepth 1000000 in
theorem cv350 {gh : sxGh} (hg : sxGd sxKw gh) : sxCtV sxKw gh ct350 := sxMeB_ok (cts := []) (cuts := cu350) (sp := []) 85 (by decide +kernel) hg (by decide) (by decide) (fun _ h => absurd h List.not_mem_nil)
/-- LotBeliefsModel.leaves -/
def ct361 : sxCt := (262, 0, (3, [(1, .ofNat 0, .ofNat 15), (2, .ofNat 1, .ofNat 17)], [], [(0, .inl 78), (1, .inr (false, (1, .ofNat 0)))], [], [(78, (0, .ofNat 44), .inr (false, (2, .ofNat 0)))], [], []), [(78, 45), (561, 0)], [
  (3, [], [], [], [], [(78, (0, .ofNat 44), .inr (false, (2, .negSucc 0)))], [], [])], [], 0, 0)
def cu361 : List sxCu := [
  (12, (4, [(1, .ofNat 0, .ofNat 15), (2, .ofNat 1, .ofNat 17), (3, .ofNat 0, .ofNat 16)], [(1, 3, .ofNat 0), (3, 2, .ofNat 14)], [(0, .inl 78), (1, .inr (false, (1, .ofNat 0))), (2, .inr (false, (3, .ofNat 0)))], [], [(78, (0, .ofNat 44), .inr (false, (2, .negSucc 0)))], [], []), ((0, 3, .ofNat 16), (0, 0, .ofNat 0), (0, 0, .ofNat 0)), 0, 0)]
set_option maxRecDepth 1000000 in
theorem cv361 {gh : sxGh} (hg : sxGd sxKw gh) : sxCtV sxKw gh ct361 := sxMeB_ok (cts := []) (cuts := cu361) (sp := []) 85 (by decide +kernel) hg (by decide) (by decide) (fun _ h => absurd h List.not_mem_nil)
/-- LotBeliefsModel.leaves -/
def ct370 : sxCt := (262, 0, (3, [(1, .ofNat 0, .ofNat 16), (2, .ofNat 1, .ofNat 17)], [], [(0, .inl 78), (1, .inr (false, (1, .ofNat 0)))], [], [(78, (0, .ofNat 44), .inr (false, (2, .ofNat 0)))], [], []), [(78, 45), (561, 0)], [
  (3, [], [], [], [], [(78, (0, .ofNat 44), .inr (false, (2, .negSucc 0)))], [], [])], [], 0, 0)
def cu370 : List sxCu := [
  (12, (4, [(1, .ofNat 0, .ofNat 16), (2, .ofNat 1, .ofNat 17), (3, .ofNat 0, .ofNat 16)], [(1, 3, .ofNat 0)], [(0, .inl 78), (1, .inr (false, (1, .ofNat 0))), (2, .inr (false, (3, .ofNat 0)))], [], [(78, (0, .ofNat 44), .inr (false, (2, .negSucc 0)))], [], []), ((0, 3, .ofNat 16), (0, 0, .ofNat 0), (0, 0, .ofNat 0)), 0, 0)]
set_option maxRecDepth 1000000 in
theorem cv370 {gh : sxGh} (hg : sxGd sxKw gh) : sxCtV sxKw gh ct370 := sxMeB_ok (cts := []) (cuts := cu370) (sp := []) 85 (by decide +kernel) hg (by decide) (by decide) (fun _ h => absurd h List.not_mem_nil)
/-- LotBeliefsModel.kills -/
def ct374 : sxCt := (263, 1, (3, [(1, .ofNat 0, .ofNat 51), (2, .ofNat 0, .ofNat 17)], [(2, 1, .ofNat 0)], [(0, .inl 78), (1, .inr (false, (1, .ofNat 0)))], [], [(78, (0, .ofNat 44), .inr (false, (2, .ofNat 0)))], [], []), [(78, 45), (78, 47), (561, 0), (563, 0)], [
  (4, [(3, .ofNat 0, .ofNat 17)], [(3, 1, .ofNat 0), (3, 2, .ofNat 0)], [], [], [(78, (0, .ofNat 44), .inr (false, (3, .ofNat 0)))], [], [])], [], 0, 0)
def cu374 : List sxCu := [
  (2, (5, [(1, .ofNat 0, .ofNat 51), (2, .ofNat 0, .ofNat 17), (3, .ofNat 0, .ofNat 17), (4, .ofNat 0, .ofNat 17)], [(4, 1, .ofNat 0), (4, 2, .ofNat 0), (2, 1, .ofNat 0)], [(0, .inl 78), (1, .inr (false, (1, .ofNat 0))), (2, .inr (false, (3, .ofNat 0)))], [], [(78, (0, .ofNat 44), .inr (false, (4, .ofNat 0)))], [], []), ((4, 3, .ofNat 17), (0, 0, .ofNat 0), (0, 0, .ofNat 0)), 0, 0)]
set_option maxRecDepth 1000000 in
theorem cv374 {gh : sxGh} (hg : sxGd sxKw gh) : sxCtV sxKw gh ct374 := sxMeB_ok (cts := [ct370]) (cuts := cu374) (sp := []) 121 (by decide +kernel) hg (by decide) (by decide) (List.forall_mem_cons.mpr ⟨cv370 hg, (fun _ h => absurd h List.not_mem_nil)⟩)
/-- LotBeliefs.fate -/
def ct376 : sxCt := (131, 6, (3, [(1, .negSucc 2147483647, .ofNat 2147483647), (2, .negSucc 2147483647, .ofNat 2147483647)], [], [(0, .inl 0), (1, .inr (false, (1, .ofNat 0))), (2, .inr (false, (2, .ofNat 0)))], [], [], [], []), [(21, 0), (22, 0), (25, 0), (26, 0), (30, 0), (32, 1), (32, 2), (32, 3), (32, 4), (32, 9), (32, 11), (32, 12), (33000037, 0)], [
  (8, [(1, .ofNat 0, .ofNat 11), (2, .ofNat 0, .ofNat 4), (3, .negSucc 50, .ofNat 52), (4, .ofNat 0, .ofNat 4), (5, .ofNat 0, .ofNat 63), (6, .ofNat 0, .ofNat 4095), (7, .negSucc 2147483647, .ofNat 2147483647)], [], [], [.inr (false, (3, .ofNat 0))], [(32, (0, .ofNat 2), .inr (false, (4, .ofNat 0))), (32, (0, .ofNat 3), .inr (false, (5, .ofNat 0))), (32, (0, .ofNat 8), .inr (false, (6, .ofNat 0))), (32, (0, .ofNat 11), .inr (false, (7, .ofNat 0)))], [], [])], [
  (0, (4, [(3, .negSucc 2147483647, .ofNat 2147483647)], [], [], [], [(30, (0, .ofNat 0), .inr (false, (3, .ofNat 0)))], [], [])), 
  (1, (4, [(1, .ofNat 0, .ofNat 11), (3, .negSucc 2147483647, .ofNat 2147483647)], [], [], [], [(30, (0, .ofNat 1), .inr (false, (3, .ofNat 0)))], [], []))], 1, 6)
def cu376 : List sxCu := []
set_option maxRecDepth 1000000 in
theorem cv376 {gh : sxGh} (hg : sxGd sxKw gh) : sxCtV sxKw gh ct376 := sxMeB_ok (cts := [ct286]) (cuts := cu376) (sp := []) 771 (by decide +kernel) hg (by decide) (by decide) (List.forall_mem_cons.mpr ⟨cv286 hg, (fun _ h => absurd h List.not_mem_nil)⟩)
/-- LotBeliefs.Jar.common -/
def ct380 : sxCt := (28, 0, (3, [(1, .ofNat 0, .ofNat 4095), (2, .ofNat 0, .ofNat 51)], [], [(0, .inl 11), (1, .inr (false, (1, .ofNat 0))), (2, .inr (false, (2, .ofNat 0)))], [], [], [], []), [], [
  (4, [(3, .negSucc 9223372036854775807, .ofNat 9223372036854775807)], [], [], [.inr (true, (3, .ofNat 0))], [], [], [])], [], 0, 0)
def cu380 : List sxCu := [
  (10, (5, [(1, .ofNat 0, .ofNat 4095), (2, .ofNat 0, .ofNat 51), (3, .negSucc 9223372036854775807, .ofNat 9223372036854775807), (4, .ofNat 0, .ofNat 12)], [], [(0, .inl 11), (1, .inr (false, (1, .ofNat 0))), (2, .inr (false, (2, .ofNat 0))), (3, .inr (true, (3, .ofNat 0))), (5, .inr (false, (4, .ofNat 0)))], [], [(11, (0, .ofNat 11), .inl 16)], [], []), ((0, 4, .ofNat 12), (0, 0, .ofNat 0), (0, 0, .ofNat 0)), 0, 0)]
set_option maxRecDepth 1000000 in
theorem cv380 {gh : sxGh} (hg : sxGd sxKw gh) : sxCtV sxKw gh ct380 := sxMeB_ok (cts := []) (cuts := cu380) (sp := []) 90 (by decide +kernel) hg (by decide) (by decide) (fun _ h => absurd h List.not_mem_nil)
/-- LotBeliefs.Jar.slipsSoIn -/
def ct381 : sxCt := (26, 1, (2, [(1, .ofNat 0, .ofNat 63)], [], [(0, .inl 11), (1, .inr (false, (1, .ofNat 0)))], [], [], [], []), [], [
  (3, [(2, .ofNat 0, .ofNat 4095)], [], [], [.inr (false, (2, .ofNat 0))], [], [], [])], [], 0, 0)
def cu381 : List sxCu := [
  (4, (4, [(1, .ofNat 0, .ofNat 63), (2, .ofNat 0, .ofNat 4095), (3, .ofNat 0, .ofNat 12)], [], [(0, .inl 11), (1, .inr (false, (1, .ofNat 0))), (2, .inr (false, (2, .ofNat 0))), (3, .inr (false, (3, .ofNat 0)))], [], [], [], []), ((0, 3, .ofNat 12), (0, 0, .ofNat 0), (0, 0, .ofNat 0)), 0, 0)]
set_option maxRecDepth 1000000 in
theorem cv381 {gh : sxGh} (hg : sxGd sxKw gh) : sxCtV sxKw gh ct381 := sxMeB_ok (cts := []) (cuts := cu381) (sp := []) 103 (by decide +kernel) hg (by decide) (by decide) (fun _ h => absurd h List.not_mem_nil)
/-- Integer.bitCount -/
def ct382 : sxCt := (328, 0, (2, [(1, .ofNat 0, .ofNat 4095)], [], [(0, .inr (false, (1, .ofNat 0)))], [], [], [], []), [], [
  (3, [(2, .ofNat 0, .ofNat 63)], [], [], [.inr (false, (2, .ofNat 0))], [], [], [])], [], 0, 0)
def cu382 : List sxCu := []
set_option maxRecDepth 1000000 in
theorem cv382 {gh : sxGh} (hg : sxGd sxKw gh) : sxCtV sxKw gh ct382 := sxMeB_ok (cts := []) (cuts := cu382) (sp := []) 102 (by decide +kernel) hg (by decide) (by decide) (fun _ h => absurd h List.not_mem_nil)
/-- LotBeliefs.Course.hurtsInAll -/
def ct383 : sxCt := (12, 2, (1, [], [], [(0, .inl 32)], [], [], [], []), [], [
  (2, [(1, .negSucc 2147483647, .ofNat 2147483647)], [], [], [.inr (false, (1, .ofNat 0))], [], [], [])], [], 0, 0)
def cu383 : List sxCu := [
  (4, (3, [(1, .negSucc 2147483647, .ofNat 2147483647), (2, .ofNat 0, .ofNat 12)], [], [(0, .inl 32), (1, .inr (false, (1, .ofNat 0))), (2, .inr (false, (2, .ofNat 0)))], [], [], [], []), ((0, 2, .ofNat 12), (0, 0, .ofNat 0), (0, 0, .ofNat 0)), 0, 0)]
set_option maxRecDepth 1000000 in
theorem cv383 {gh : sxGh} (hg : sxGd sxKw gh) : sxCtV sxKw gh ct383 := sxMeB_ok (cts := []) (cuts := cu383) (sp := []) 211 (by decide +kernel) hg (by decide) (by decide) (fun _ h => absurd h List.not_mem_nil)
/-- LotBeliefs.Course.gone -/
def ct384 : sxCt := (13, 0, (2, [(1, .ofNat 0, .ofNat 1)], [], [(0, .inl 32), (1, .inr (false, (1, .ofNat 0)))], [], [], [], []), [], [
  (3, [(2, .ofNat 0, .ofNat 12)], [], [], [.inr (false, (2, .ofNat 0))], [], [], [])], [], 0, 0)
def cu384 : List sxCu := [
  (4, (4, [(1, .ofNat 0, .ofNat 1), (2, .ofNat 0, .ofNat 12), (3, .ofNat 0, .ofNat 12)], [(2, 3, .ofNat 0)], [(0, .inl 32), (1, .inr (false, (1, .ofNat 0))), (2, .inr (false, (2, .ofNat 0))), (3, .inr (false, (3, .ofNat 0)))], [], [], [], []), ((0, 3, .ofNat 12), (0, 0, .ofNat 0), (0, 0, .ofNat 0)), 0, 0)]
set_option maxRecDepth 1000000 in
theorem cv384 {gh : sxGh} (hg : sxGd sxKw gh) : sxCtV sxKw gh ct384 := sxMeB_ok (cts := []) (cuts := cu384) (sp := []) 129 (by decide +kernel) hg (by decide) (by decide) (fun _ h => absurd h List.not_mem_nil)
/-- LotBeliefs.Jar.common -/
def ct385 : sxCt := (28, 0, (3, [(1, .ofNat 0, .ofNat 4095), (2, .ofNat 0, .ofNat 51)], [], [(0, .inl 3), (1, .inr (false, (1, .ofNat 0))), (2, .inr (false, (2, .ofNat 0)))], [], [], [], []), [], [
  (4, [(3, .negSucc 9223372036854775807, .ofNat 9223372036854775807)], [], [], [.inr (true, (3, .ofNat 0))], [], [], [])], [], 0, 0)
def cu385 : List sxCu := [
  (10, (5, [(1, .ofNat 0, .ofNat 4095), (2, .ofNat 0, .ofNat 51), (3, .negSucc 9223372036854775807, .ofNat 9223372036854775807), (4, .ofNat 0, .ofNat 12)], [], [(0, .inl 3), (1, .inr (false, (1, .ofNat 0))), (2, .inr (false, (2, .ofNat 0))), (3, .inr (true, (3, .ofNat 0))), (5, .inr (false, (4, .ofNat 0)))], [], [(3, (0, .ofNat 11), .inl 8)], [], []), ((0, 4, .ofNat 12), (0, 0, .ofNat 0), (0, 0, .ofNat 0)), 0, 0)]
set_option maxRecDepth 1000000 in
theorem cv385 {gh : sxGh} (hg : sxGd sxKw gh) : sxCtV sxKw gh ct385 := sxMeB_ok (cts := []) (cuts := cu385) (sp := []) 90 (by decide +kernel) hg (by decide) (by decide) (fun _ h => absurd h List.not_mem_nil)
/-- LotBeliefs.year -/
def ct386 : sxCt := (132, 6, (2, [(1, .negSucc 2147483647, .ofNat 2147483647)], [], [(0, .inl 0), (1, .inr (false, (1, .ofNat 0)))], [], [], [], []), [(21, 0), (22, 0), (25, 0), (26, 0), (30, 0), (32, 1), (32, 2), (32, 3), (32, 4), (32, 9), (32, 11), (32, 12), (33000037, 0)], [
  (7, [(1, .ofNat 0, .ofNat 5), (2, .negSucc 2147483647, .ofNat 2147483647), (3, .ofNat 0, .ofNat 4), (4, .ofNat 0, .ofNat 63), (5, .ofNat 0, .ofNat 4095), (6, .negSucc 2147483647, .ofNat 2147483647)], [], [], [.inr (false, (2, .ofNat 0))], [(32, (0, .ofNat 2), .inr (false, (3, .ofNat 0))), (32, (0, .ofNat 3), .inr (false, (4, .ofNat 0))), (32, (0, .ofNat 8), .inr (false, (5, .ofNat 0))), (32, (0, .ofNat 11), .inr (false, (6, .ofNat 0)))], [], [])], [
  (1, (3, [(2, .negSucc 2147483647, .ofNat 2147483647)], [], [], [], [(30, (0, .ofNat 1), .inr (false, (2, .ofNat 0)))], [], []))], 1, 6)
def cu386 : List sxCu := []
set_option maxRecDepth 1000000 in
theorem cv386 {gh : sxGh} (hg : sxGd sxKw gh) : sxCtV sxKw gh ct386 := sxMeB_ok (cts := [ct286, ct383, ct384, ct239, ct381, ct385, ct380, ct382]) (cuts := cu386) (sp := []) 462 (by decide +kernel) hg (by decide) (by decide) (List.forall_mem_cons.mpr ⟨cv286 hg, (List.forall_mem_cons.mpr ⟨cv383 hg, (List.forall_mem_cons.mpr ⟨cv384 hg, (List.forall_mem_cons.mpr ⟨cv239 hg, (List.forall_mem_cons.mpr ⟨cv381 hg, (List.forall_mem_cons.mpr ⟨cv385 hg, (List.forall_mem_cons.mpr ⟨cv380 hg, (List.forall_mem_cons.mpr ⟨cv382 hg, (fun _ h => absurd h List.not_mem_nil)⟩)⟩)⟩)⟩)⟩)⟩)⟩)⟩)
/-- LotBeliefsModel.togetherIn -/
def ct387 : sxCt := (275, 0, (3, [(1, .ofNat 0, .ofNat 4095), (2, .ofNat 0, .ofNat 51)], [], [(0, .inl 78), (1, .inr (false, (1, .ofNat 0))), (2, .inr (false, (2, .ofNat 0)))], [], [], [], []), [], [
  (4, [(3, .negSucc 9223372036854775807, .ofNat 9223372036854775807)], [], [], [.inr (true, (3, .ofNat 0))], [], [], [])], [], 0, 0)
def cu387 : List sxCu := [
  (10, (5, [(1, .ofNat 0, .ofNat 4095), (2, .ofNat 0, .ofNat 51), (3, .negSucc 9223372036854775807, .ofNat 9223372036854775807), (4, .ofNat 0, .ofNat 12)], [], [(0, .inl 78), (1, .inr (false, (1, .ofNat 0))), (2, .inr (false, (2, .ofNat 0))), (3, .inr (true, (3, .ofNat 0))), (5, .inr (false, (4, .ofNat 0)))], [], [(78, (0, .ofNat 19), .inl 89)], [], []), ((0, 4, .ofNat 12), (0, 0, .ofNat 0), (0, 0, .ofNat 0)), 0, 0)]
set_option maxRecDepth 1000000 in
theorem cv387 {gh : sxGh} (hg : sxGd sxKw gh) : sxCtV sxKw gh ct387 := sxMeB_ok (cts := []) (cuts := cu387) (sp := []) 97 (by decide +kernel) hg (by decide) (by decide) (fun _ h => absurd h List.not_mem_nil)
/-- LotBeliefsModel.ones -/
def ct388 : sxCt := (225, 0, (2, [(1, .ofNat 0, .ofNat 4095)], [], [(0, .inr (true, (1, .ofNat 0)))], [], [], [], []), [], [
  (3, [(2, .negSucc 2147483647, .ofNat 2147483647)], [], [], [.inr (false, (2, .ofNat 0))], [], [], [])], [], 0, 0)
def cu388 : List sxCu := [
  (4, (4, [(1, .ofNat 0, .ofNat 4095), (2, .negSucc 2147483647, .ofNat 2147483647), (3, .ofNat 0, .ofNat 64)], [], [(0, .inr (true, (1, .ofNat 0))), (2, .inr (false, (2, .ofNat 0))), (3, .inr (false, (3, .ofNat 0)))], [], [], [], []), ((0, 3, .ofNat 64), (0, 0, .ofNat 0), (0, 0, .ofNat 0)), 0, 0)]
set_option maxRecDepth 1000000 in
theorem cv388 {gh : sxGh} (hg : sxGd sxKw gh) : sxCtV sxKw gh ct388 := sxMeB_ok (cts := []) (cuts := cu388) (sp := []) 80 (by decide +kernel) hg (by decide) (by decide) (fun _ h => absurd h List.not_mem_nil)
/-- LotBeliefs.copyOrder -/
def ct391 : sxCt := (183, 0, (2, [(1, .ofNat 0, .ofNat 1)], [], [(0, .inl 0), (1, .inr (false, (1, .ofNat 0)))], [], [], [], []), [(31, 0)], [
  (2, [], [], [], [], [], [], [])], [], 0, 0)
def cu391 : List sxCu := [
  (2, (3, [(1, .ofNat 0, .ofNat 1), (2, .ofNat 0, .ofNat 12)], [], [(0, .inl 0), (1, .inr (false, (1, .ofNat 0))), (2, .inr (false, (2, .ofNat 0)))], [], [], [], []), ((0, 2, .ofNat 12), (0, 0, .ofNat 0), (0, 0, .ofNat 0)), 0, 0)]
set_option maxRecDepth 1000000 in
theorem cv391 {gh : sxGh} (hg : sxGd sxKw gh) : sxCtV sxKw gh ct391 := sxMeB_ok (cts := []) (cuts := cu391) (sp := []) 111 (by decide +kernel) hg (by decide) (by decide) (fun _ h => absurd h List.not_mem_nil)
/-- LotBeliefs.Course.goBack -/
def ct392 : sxCt := (3, 1, (2, [(1, .ofNat 0, .ofNat 1)], [], [(0, .inl 32), (1, .inl 31), (2, .inr (false, (1, .ofNat 0)))], [], [], [], []), [(32, 11), (32, 12), (33000037, 0)], [
  (3, [(2, .ofNat 0, .ofNat 17)], [], [], [], [(32, (0, .ofNat 10), .inr (false, (2, .ofNat 0)))], [], [])], [], 0, 0)
def cu392 : List sxCu := [
  (12, (3, [(1, .ofNat 0, .ofNat 1), (2, .ofNat 0, .ofNat 17)], [], [(0, .inl 32), (1, .inl 31), (2, .inr (false, (1, .ofNat 0))), (3, .inr (false, (2, .ofNat 0)))], [], [(32, (0, .ofNat 10), .inr (false, (0, .ofNat 0))), (32, (0, .ofNat 11), .inr (false, (0, .ofNat 0)))], [], []), ((0, 2, .ofNat 19), (0, 0, .ofNat 0), (0, 0, .ofNat 0)), 0, 0), 
  (46, (4, [(1, .ofNat 0, .ofNat 1), (2, .ofNat 0, .ofNat 1), (3, .ofNat 0, .ofNat 17)], [], [(0, .inl 32), (1, .inl 31), (2, .inr (false, (1, .ofNat 0))), (3, .inr (false, (2, .ofNat 0)))], [], [(32, (0, .ofNat 4), .inl 33), (32, (0, .ofNat 10), .inr (false, (3, .ofNat 0)))], [], []), ((0, 2, .ofNat 1), (0, 0, .ofNat 0), (0, 0, .ofNat 0)), 0, 0)]
set_option maxRecDepth 1000000 in
theorem cv392 {gh : sxGh} (hg : sxGd sxKw gh) : sxCtV sxKw gh ct392 := sxMeB_ok (cts := [ct246]) (cuts := cu392) (sp := []) 125 (by decide +kernel) hg (by decide) (by decide) (List.forall_mem_cons.mpr ⟨cv246 hg, (fun _ h => absurd h List.not_mem_nil)⟩)
/-- LotBeliefs.Course.play -/
def ct393 : sxCt := (2, 4, (3, [(1, .ofNat 0, .ofNat 12), (2, .ofNat 0, .ofNat 1)], [], [(0, .inl 32), (1, .inl 31), (2, .inr (false, (1, .ofNat 0))), (3, .inr (false, (2, .ofNat 0)))], [], [], [], []), [(21, 0), (22, 0), (25, 0), (26, 0), (32, 9), (32, 11), (32, 12), (33000037, 0)], [
  (5, [(3, .ofNat 0, .ofNat 4095), (4, .negSucc 2147483647, .ofNat 2147483647)], [], [], [], [(32, (0, .ofNat 8), .inr (false, (3, .ofNat 0))), (32, (0, .ofNat 11), .inr (false, (4, .ofNat 0)))], [], [])], [], 0, 0)
def cu393 : List sxCu := [
  (9, (4, [(1, .ofNat 0, .ofNat 12), (2, .ofNat 0, .ofNat 1), (3, .ofNat 0, .ofNat 12)], [(2, 3, .ofNat 0), (3, 1, .ofNat 1)], [(0, .inl 32), (1, .inl 31), (2, .inr (false, (1, .ofNat 0))), (3, .inr (false, (2, .ofNat 0))), (4, .inr (false, (3, .ofNat 0)))], [], [], [], []), ((0, 3, .ofNat 12), (0, 0, .ofNat 0), (0, 0, .ofNat 0)), 0, 0)]
set_option maxRecDepth 1000000 in
theorem cv393 {gh : sxGh} (hg : sxGd sxKw gh) : sxCtV sxKw gh ct393 := sxMeB_ok (cts := [ct392, ct246, ct284, ct267, ct285, ct266]) (cuts := cu393) (sp := []) 134 (by decide +kernel) hg (by decide) (by decide) (List.forall_mem_cons.mpr ⟨cv392 hg, (List.forall_mem_cons.mpr ⟨cv246 hg, (List.forall_mem_cons.mpr ⟨cv284 hg, (List.forall_mem_cons.mpr ⟨cv267 hg, (List.forall_mem_cons.mpr ⟨cv285 hg, (List.forall_mem_cons.mpr ⟨cv266 hg, (fun _ h => absurd h List.not_mem_nil)⟩)⟩)⟩)⟩)⟩)⟩)
/-- LotBeliefs.touchy -/
def ct394 : sxCt := (133, 6, (1, [], [], [(0, .inl 0)], [], [], [], []), [(21, 0), (22, 0), (25, 0), (26, 0), (31, 0), (32, 1), (32, 2), (32, 3), (32, 4), (32, 9), (32, 11), (32, 12), (33000037, 0)], [
  (6, [(1, .ofNat 0, .ofNat 11), (2, .ofNat 0, .ofNat 4), (3, .ofNat 0, .ofNat 63), (4, .ofNat 0, .ofNat 4095), (5, .negSucc 2147483647, .ofNat 2147483647)], [], [], [.inr (false, (1, .ofNat 0))], [(32, (0, .ofNat 2), .inr (false, (2, .ofNat 0))), (32, (0, .ofNat 3), .inr (false, (3, .ofNat 0))), (32, (0, .ofNat 8), .inr (false, (4, .ofNat 0))), (32, (0, .ofNat 11), .inr (false, (5, .ofNat 0)))], [], [])], [], 0, 0)
def cu394 : List sxCu := [
  (21, (8, [(1, .ofNat 0, .ofNat 4095), (2, .ofNat 0, .ofNat 11), (3, .ofNat 0, .ofNat 11), (4, .ofNat 0, .ofNat 4), (5, .ofNat 0, .ofNat 63), (6, .ofNat 0, .ofNat 4095), (7, .negSucc 2147483647, .ofNat 2147483647)], [(2, 3, .ofNat 0)], [(0, .inl 0), (1, .inr (false, (1, .ofNat 0))), (2, .inr (false, (2, .ofNat 0))), (3, .inr (false, (3, .ofNat 0)))], [], [(0, (0, .ofNat 7), .inl 27), (0, (0, .ofNat 12), .inl 32), (27, (0, .ofNat 0), .inl 28), (27, (0, .ofNat 1), .inr (false, (4, .ofNat 0))), (27, (0, .ofNat 2), .inr (false, (5, .ofNat 0))), (32, (0, .ofNat 2), .inr (false, (4, .ofNat 0))), (32, (0, .ofNat 3), .inr (false, (5, .ofNat 0))), (32, (0, .ofNat 8), .inr (false, (6, .ofNat 0))), (32, (0, .ofNat 11), .inr (false, (7, .ofNat 0)))], [], []), ((0, 3, .ofNat 11), (0, 0, .ofNat 0), (0, 0, .ofNat 0)), 0, 0)]
set_option maxRecDepth 1000000 in
theorem cv394 {gh : sxGh} (hg : sxGd sxKw gh) : sxCtV sxKw gh ct394 := sxMeB_ok (cts := [ct393, ct286, ct391]) (cuts := cu394) (sp := []) 685 (by decide +kernel) hg (by decide) (by decide) (List.forall_mem_cons.mpr ⟨cv393 hg, (List.forall_mem_cons.mpr ⟨cv286 hg, (List.forall_mem_cons.mpr ⟨cv391 hg, (fun _ h => absurd h List.not_mem_nil)⟩)⟩)⟩)
/-- LotBeliefs.Course.seat -/
def ct396 : sxCt := (4, 0, (2, [(1, .ofNat 0, .ofNat 6)], [], [(0, .inl 32), (1, .inr (false, (1, .ofNat 0)))], [], [], [], []), [(32, 11), (32, 12), (34000037, 0)], [
  (3, [(2, .ofNat 1, .ofNat 17)], [], [], [], [(32, (0, .ofNat 10), .inr (false, (2, .ofNat 0)))], [], [])], [], 0, 0)
def cu396 : List sxCu := []
set_option maxRecDepth 1000000 in
theorem cv396 {gh : sxGh} (hg : sxGd sxKw gh) : sxCtV sxKw gh ct396 := sxMeB_ok (cts := []) (cuts := cu396) (sp := []) 103 (by decide +kernel) hg (by decide) (by decide) (fun _ h => absurd h List.not_mem_nil)
/-- LotBeliefs.Course.lives -/
def ct430 : sxCt := (6, 0, (3, [(1, .ofNat 0, .ofNat 6), (2, .ofNat 0, .ofNat 6)], [], [(0, .inl 32), (1, .inr (false, (1, .ofNat 0))), (2, .inr (false, (2, .ofNat 0)))], [], [], [], []), [(33000036, 0)], [
  (3, [], [], [], [.inr (false, (0, .ofNat 0))], [], [], []), 
  (3, [], [], [], [.inr (false, (0, .ofNat 1))], [], [], [])], [], 0, 0)
def cu430 : List sxCu := []
set_option maxRecDepth 1000000 in
theorem cv430 {gh : sxGh} (hg : sxGd sxKw gh) : sxCtV sxKw gh ct430 := sxMeB_ok (cts := []) (cuts := cu430) (sp := []) 196 (by decide +kernel) hg (by decide) (by decide) (fun _ h => absurd h List.not_mem_nil)
/-- LotBeliefs.Survey.digits -/
def ct432 : sxCt := (71, 0, (2, [(1, .ofNat 0, .ofNat 7)], [], [(0, .inl 74), (1, .inr (false, (1, .ofNat 0)))], [], [], [], []), [], [
  (3, [(2, .negSucc 9223372036854775807, .ofNat 9223372036854775807)], [], [], [.inr (true, (2, .ofNat 0))], [], [], [])], [], 0, 0)
def cu432 : List sxCu := [
  (5, (4, [(1, .ofNat 0, .ofNat 7), (2, .negSucc 9223372036854775807, .ofNat 9223372036854775807), (3, .ofNat 0, .ofNat 7)], [], [(0, .inl 74), (1, .inr (false, (1, .ofNat 0))), (2, .inr (true, (2, .ofNat 0))), (4, .inr (false, (3, .ofNat 0)))], [], [], [], []), ((0, 3, .ofNat 7), (0, 0, .ofNat 0), (0, 0, .ofNat 0)), 0, 0)]
set_option maxRecDepth 1000000 in
theorem cv432 {gh : sxGh} (hg : sxGd sxKw gh) : sxCtV sxKw gh ct432 := sxMeB_ok (cts := []) (cuts := cu432) (sp := []) 81 (by decide +kernel) hg (by decide) (by decide) (fun _ h => absurd h List.not_mem_nil)
/-- LotBeliefs.Survey.note -/
def ct433 : sxCt := (70, 1, (4, [(1, .ofNat 0, .ofNat 4095), (2, .negSucc 2147483647, .ofNat 2147483647), (3, .ofNat 0, .ofNat 7)], [], [(0, .inl 74), (1, .inr (false, (1, .ofNat 0))), (2, .inr (false, (2, .ofNat 0))), (3, .inr (false, (3, .ofNat 0)))], [], [], [], []), [(74, 6), (74, 7), (75, 0), (76, 0)], [
  (5, [(4, .negSucc 2147483647, .ofNat 2147483647)], [(2, 4, .ofNat 0)], [], [], [(74, (0, .ofNat 5), .inr (false, (4, .ofNat 0)))], [], [])], [], 0, 0)
def cu433 : List sxCu := []
set_option maxRecDepth 1000000 in
theorem cv433 {gh : sxGh} (hg : sxGd sxKw gh) : sxCtV sxKw gh ct433 := sxMeB_ok (cts := [ct432]) (cuts := cu433) (sp := []) 141 (by decide +kernel) hg (by decide) (by decide) (List.forall_mem_cons.mpr ⟨cv432 hg, (fun _ h => absurd h List.not_mem_nil)⟩)
/-- LotBeliefs.Survey.advance -/
def ct434 : sxCt := (72, 1, (2, [(1, .ofNat 0, .ofNat 7)], [], [(0, .inl 74), (1, .inr (false, (1, .ofNat 0)))], [], [], [], []), [(77, 0)], [
  (3, [(2, .negSucc 0, .ofNat 5)], [(2, 1, .negSucc 0)], [], [.inr (false, (2, .ofNat 0))], [], [], [])], [], 0, 0)
def cu434 : List sxCu := [
  (4, (3, [(1, .ofNat 0, .ofNat 7), (2, .negSucc 1, .ofNat 5)], [(2, 1, .negSucc 1)], [(0, .inl 74), (1, .inr (false, (1, .ofNat 0))), (2, .inr (false, (2, .ofNat 0)))], [], [], [], []), ((2, 0, .ofNat 15), (0, 0, .ofNat 0), (0, 0, .ofNat 0)), 0, 0), 
  (41, (4, [(1, .ofNat 2, .ofNat 7), (2, .ofNat 0, .ofNat 5), (3, .ofNat 0, .ofNat 6)], [(2, 1, .negSucc 1), (3, 1, .negSucc 0)], [(0, .inl 74), (1, .inr (false, (1, .ofNat 0))), (2, .inr (false, (2, .ofNat 0))), (3, .inr (false, (3, .ofNat 0)))], [], [(74, (0, .ofNat 7), .inl 77)], [], []), ((3, 0, .ofNat 6), (0, 0, .ofNat 0), (0, 0, .ofNat 0)), 0, 0), 
  (83, (6, [(1, .ofNat 2, .ofNat 7), (2, .ofNat 0, .ofNat 5), (3, .ofNat 0, .ofNat 6), (4, .ofNat 1, .ofNat 6), (5, .ofNat 1, .ofNat 6)], [(2, 1, .negSucc 1), (2, 4, .negSucc 0), (2, 5, .negSucc 0), (3, 1, .negSucc 0), (4, 1, .negSucc 0), (5, 1, .negSucc 0)], [(0, .inl 74), (1, .inr (false, (1, .ofNat 0))), (2, .inr (false, (2, .ofNat 0))), (3, .inr (false, (3, .ofNat 0))), (4, .inr (false, (4, .ofNat 0))), (5, .inr (false, (5, .ofNat 0)))], [], [(74, (0, .ofNat 7), .inl 77)], [], []), ((0, 4, .ofNat 6), (0, 0, .ofNat 0), (0, 0, .ofNat 0)), 0, 0)]
set_option maxRecDepth 1000000 in
theorem cv434 {gh : sxGh} (hg : sxGd sxKw gh) : sxCtV sxKw gh ct434 := sxMeB_ok (cts := []) (cuts := cu434) (sp := []) 196 (by decide +kernel) hg (by decide) (by decide) (fun _ h => absurd h List.not_mem_nil)
end SXC
