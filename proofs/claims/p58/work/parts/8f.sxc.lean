/-! SX: contracts, by program -/
section SXC
/-- LotBeliefs.TongueReader.readRelation -/
def ct310 : sxCt := (107, 20, (1, [], [], [(0, .inl 1), (1, .inl 19)], [], [(1, (0, .ofNat 7), .inr (false, (0, .ofNat 1)))], [], []), [(1, 4), (1, 5), (1, 6), (1, 7), (1, 8), (1, 9), (1, 10), (19, 3), (20, 0)], [
  (3, [(1, .ofNat 0, .ofNat 4), (2, .ofNat 1, .ofNat 201)], [], [], [], [(1, (0, .ofNat 3), .inr (false, (1, .ofNat 0))), (1, (0, .ofNat 7), .inr (false, (0, .ofNat 1))), (19, (0, .ofNat 2), .inr (false, (2, .ofNat 0)))], [], [])], [], 0, 0)
def cu310 : List sxCu := []
set_option maxRecDepth 1000000 in
theorem cv310 {gh : sxGh} (hg : sxGd sxKw gh) : sxCtV sxKw gh ct310 := sxMeB_ok (cts := [ct2, ct309]) (cuts := cu310) (sp := []) 617 (by decide +kernel) hg (by decide) (by decide) (List.forall_mem_cons.mpr ⟨cv2 hg, (List.forall_mem_cons.mpr ⟨cv309 hg, (fun _ h => absurd h List.not_mem_nil)⟩)⟩)
/-- LotBeliefs.TongueReader.readPart -/
def ct311 : sxCt := (106, 21, (1, [], [], [(0, .inl 1), (1, .inl 19)], [], [(1, (0, .ofNat 7), .inr (false, (0, .ofNat 1)))], [], []), [(1, 4), (1, 5), (1, 6), (1, 7), (1, 8), (1, 9), (1, 10), (19, 3), (20, 0)], [
  (2, [(1, .ofNat 0, .ofNat 4)], [], [], [], [(1, (0, .ofNat 3), .inr (false, (1, .ofNat 0))), (1, (0, .ofNat 7), .inr (false, (0, .ofNat 1)))], [], [])], [], 0, 0)
def cu311 : List sxCu := []
set_option maxRecDepth 1000000 in
theorem cv311 {gh : sxGh} (hg : sxGd sxKw gh) : sxCtV sxKw gh ct311 := sxMeB_ok (cts := [ct2, ct97, ct306, ct304, ct310]) (cuts := cu311) (sp := []) 290 (by decide +kernel) hg (by decide) (by decide) (List.forall_mem_cons.mpr ⟨cv2 hg, (List.forall_mem_cons.mpr ⟨cv97 hg, (List.forall_mem_cons.mpr ⟨cv306 hg, (List.forall_mem_cons.mpr ⟨cv304 hg, (List.forall_mem_cons.mpr ⟨cv310 hg, (fun _ h => absurd h List.not_mem_nil)⟩)⟩)⟩)⟩)⟩)
/-- LotBeliefs.TongueReader.readEach -/
def ct312 : sxCt := (105, 22, (1, [], [], [(0, .inl 1), (1, .inl 19)], [], [(1, (0, .ofNat 7), .inr (false, (0, .ofNat 1)))], [], []), [(1, 4), (1, 5), (1, 6), (1, 7), (1, 8), (1, 9), (1, 10), (19, 3), (20, 0)], [
  (2, [(1, .ofNat 0, .ofNat 4)], [], [], [], [(1, (0, .ofNat 3), .inr (false, (1, .ofNat 0))), (1, (0, .ofNat 7), .inr (false, (0, .ofNat 1)))], [], [])], [], 0, 0)
def cu312 : List sxCu := [
  (7, (3, [(1, .ofNat 0, .ofNat 200), (2, .ofNat 0, .ofNat 4)], [], [(0, .inl 1), (1, .inl 19), (2, .inr (false, (1, .ofNat 0)))], [], [(1, (0, .ofNat 3), .inr (false, (2, .ofNat 0))), (1, (0, .ofNat 7), .inr (false, (0, .ofNat 1)))], [], []), ((0, 1, .ofNat 200), (0, 0, .ofNat 0), (0, 0, .ofNat 0)), 0, 0)]
set_option maxRecDepth 1000000 in
theorem cv312 {gh : sxGh} (hg : sxGd sxKw gh) : sxCtV sxKw gh ct312 := sxMeB_ok (cts := [ct2, ct114, ct311]) (cuts := cu312) (sp := []) 111 (by decide +kernel) hg (by decide) (by decide) (List.forall_mem_cons.mpr ⟨cv2 hg, (List.forall_mem_cons.mpr ⟨cv114 hg, (List.forall_mem_cons.mpr ⟨cv311 hg, (fun _ h => absurd h List.not_mem_nil)⟩)⟩)⟩)
/-- LotBeliefs.TongueReader.readEither -/
def ct313 : sxCt := (104, 23, (1, [], [], [(0, .inl 1), (1, .inl 19)], [], [(1, (0, .ofNat 7), .inr (false, (0, .ofNat 1)))], [], []), [(1, 4), (1, 5), (1, 6), (1, 7), (1, 8), (1, 9), (1, 10), (19, 3), (20, 0)], [
  (2, [(1, .ofNat 0, .ofNat 4)], [], [], [], [(1, (0, .ofNat 3), .inr (false, (1, .ofNat 0))), (1, (0, .ofNat 7), .inr (false, (0, .ofNat 1)))], [], [])], [], 0, 0)
def cu313 : List sxCu := [
  (7, (3, [(1, .ofNat 0, .ofNat 200), (2, .ofNat 0, .ofNat 4)], [], [(0, .inl 1), (1, .inl 19), (2, .inr (false, (1, .ofNat 0)))], [], [(1, (0, .ofNat 3), .inr (false, (2, .ofNat 0))), (1, (0, .ofNat 7), .inr (false, (0, .ofNat 1)))], [], []), ((0, 1, .ofNat 200), (0, 0, .ofNat 0), (0, 0, .ofNat 0)), 0, 0)]
set_option maxRecDepth 1000000 in
theorem cv313 {gh : sxGh} (hg : sxGd sxKw gh) : sxCtV sxKw gh ct313 := sxMeB_ok (cts := [ct2, ct116, ct312]) (cuts := cu313) (sp := []) 111 (by decide +kernel) hg (by decide) (by decide) (List.forall_mem_cons.mpr ⟨cv2 hg, (List.forall_mem_cons.mpr ⟨cv116 hg, (List.forall_mem_cons.mpr ⟨cv312 hg, (fun _ h => absurd h List.not_mem_nil)⟩)⟩)⟩)
/-- LotBeliefs.TongueReader.readValue -/
def ct314 : sxCt := (110, 20, (1, [], [], [(0, .inl 1), (1, .inl 19)], [], [(1, (0, .ofNat 7), .inr (false, (0, .ofNat 0)))], [], []), [(1, 4), (1, 5), (1, 6), (1, 7), (1, 8), (1, 9), (1, 10), (19, 3), (20, 0)], [
  (2, [(1, .ofNat 0, .ofNat 4)], [], [], [], [(1, (0, .ofNat 3), .inr (false, (1, .ofNat 0))), (1, (0, .ofNat 7), .inr (false, (0, .ofNat 0)))], [], [])], [], 0, 0)
def cu314 : List sxCu := []
set_option maxRecDepth 1000000 in
theorem cv314 {gh : sxGh} (hg : sxGd sxKw gh) : sxCtV sxKw gh ct314 := sxMeB_ok (cts := [ct2, ct309, ct108]) (cuts := cu314) (sp := []) 583 (by decide +kernel) hg (by decide) (by decide) (List.forall_mem_cons.mpr ⟨cv2 hg, (List.forall_mem_cons.mpr ⟨cv309 hg, (List.forall_mem_cons.mpr ⟨cv108 hg, (fun _ h => absurd h List.not_mem_nil)⟩)⟩)⟩)
/-- LotBeliefs.TongueReader.readProduct -/
def ct315 : sxCt := (109, 21, (1, [], [], [(0, .inl 1), (1, .inl 19)], [], [(1, (0, .ofNat 7), .inr (false, (0, .ofNat 0)))], [], []), [(1, 4), (1, 5), (1, 6), (1, 7), (1, 8), (1, 9), (1, 10), (19, 3), (20, 0)], [
  (2, [(1, .ofNat 0, .ofNat 4)], [], [], [], [(1, (0, .ofNat 3), .inr (false, (1, .ofNat 0))), (1, (0, .ofNat 7), .inr (false, (0, .ofNat 0)))], [], [])], [], 0, 0)
def cu315 : List sxCu := [
  (7, (3, [(1, .ofNat 0, .ofNat 200), (2, .ofNat 0, .ofNat 4)], [], [(0, .inl 1), (1, .inl 19), (2, .inr (false, (1, .ofNat 0)))], [], [(1, (0, .ofNat 3), .inr (false, (2, .ofNat 0))), (1, (0, .ofNat 7), .inr (false, (0, .ofNat 0)))], [], []), ((0, 1, .ofNat 200), (0, 0, .ofNat 0), (0, 0, .ofNat 0)), 0, 0)]
set_option maxRecDepth 1000000 in
theorem cv315 {gh : sxGh} (hg : sxGd sxKw gh) : sxCtV sxKw gh ct315 := sxMeB_ok (cts := [ct2, ct314]) (cuts := cu315) (sp := []) 127 (by decide +kernel) hg (by decide) (by decide) (List.forall_mem_cons.mpr ⟨cv2 hg, (List.forall_mem_cons.mpr ⟨cv314 hg, (fun _ h => absurd h List.not_mem_nil)⟩)⟩)
/-- LotBeliefs.TongueReader.readSum -/
def ct316 : sxCt := (108, 22, (1, [], [], [(0, .inl 1), (1, .inl 19)], [], [(1, (0, .ofNat 7), .inr (false, (0, .ofNat 0)))], [], []), [(1, 4), (1, 5), (1, 6), (1, 7), (1, 8), (1, 9), (1, 10), (19, 3), (20, 0)], [
  (2, [(1, .ofNat 0, .ofNat 4)], [], [], [], [(1, (0, .ofNat 3), .inr (false, (1, .ofNat 0))), (1, (0, .ofNat 7), .inr (false, (0, .ofNat 0)))], [], [])], [], 0, 0)
def cu316 : List sxCu := [
  (7, (3, [(1, .ofNat 0, .ofNat 200), (2, .ofNat 0, .ofNat 4)], [], [(0, .inl 1), (1, .inl 19), (2, .inr (false, (1, .ofNat 0)))], [], [(1, (0, .ofNat 3), .inr (false, (2, .ofNat 0))), (1, (0, .ofNat 7), .inr (false, (0, .ofNat 0)))], [], []), ((0, 1, .ofNat 200), (0, 0, .ofNat 0), (0, 0, .ofNat 0)), 0, 0)]
set_option maxRecDepth 1000000 in
theorem cv316 {gh : sxGh} (hg : sxGd sxKw gh) : sxCtV sxKw gh ct316 := sxMeB_ok (cts := [ct2, ct315]) (cuts := cu316) (sp := []) 285 (by decide +kernel) hg (by decide) (by decide) (List.forall_mem_cons.mpr ⟨cv2 hg, (List.forall_mem_cons.mpr ⟨cv315 hg, (fun _ h => absurd h List.not_mem_nil)⟩)⟩)
/-- LotBeliefs.TongueReader.readRelation -/
def ct317 : sxCt := (107, 23, (1, [], [], [(0, .inl 1), (1, .inl 19)], [], [(1, (0, .ofNat 7), .inr (false, (0, .ofNat 0)))], [], []), [(1, 4), (1, 5), (1, 6), (1, 7), (1, 8), (1, 9), (1, 10), (19, 3), (20, 0)], [
  (3, [(1, .ofNat 0, .ofNat 4), (2, .ofNat 1, .ofNat 201)], [], [], [], [(1, (0, .ofNat 3), .inr (false, (1, .ofNat 0))), (1, (0, .ofNat 7), .inr (false, (0, .ofNat 0))), (19, (0, .ofNat 2), .inr (false, (2, .ofNat 0)))], [], [])], [], 0, 0)
def cu317 : List sxCu := []
set_option maxRecDepth 1000000 in
theorem cv317 {gh : sxGh} (hg : sxGd sxKw gh) : sxCtV sxKw gh ct317 := sxMeB_ok (cts := [ct2, ct316]) (cuts := cu317) (sp := []) 617 (by decide +kernel) hg (by decide) (by decide) (List.forall_mem_cons.mpr ⟨cv2 hg, (List.forall_mem_cons.mpr ⟨cv316 hg, (fun _ h => absurd h List.not_mem_nil)⟩)⟩)
/-- LotBeliefs.TongueReader.readPart -/
def ct318 : sxCt := (106, 24, (1, [], [], [(0, .inl 1), (1, .inl 19)], [], [(1, (0, .ofNat 7), .inr (false, (0, .ofNat 0)))], [], []), [(1, 4), (1, 5), (1, 6), (1, 7), (1, 8), (1, 9), (1, 10), (19, 3), (20, 0)], [
  (2, [(1, .ofNat 0, .ofNat 4)], [], [], [], [(1, (0, .ofNat 3), .inr (false, (1, .ofNat 0))), (1, (0, .ofNat 7), .inr (false, (0, .ofNat 0)))], [], [])], [], 0, 0)
def cu318 : List sxCu := []
set_option maxRecDepth 1000000 in
theorem cv318 {gh : sxGh} (hg : sxGd sxKw gh) : sxCtV sxKw gh ct318 := sxMeB_ok (cts := [ct2, ct97, ct313, ct311, ct317]) (cuts := cu318) (sp := []) 290 (by decide +kernel) hg (by decide) (by decide) (List.forall_mem_cons.mpr ⟨cv2 hg, (List.forall_mem_cons.mpr ⟨cv97 hg, (List.forall_mem_cons.mpr ⟨cv313 hg, (List.forall_mem_cons.mpr ⟨cv311 hg, (List.forall_mem_cons.mpr ⟨cv317 hg, (fun _ h => absurd h List.not_mem_nil)⟩)⟩)⟩)⟩)⟩)
/-- LotBeliefs.TongueReader.readEach -/
def ct319 : sxCt := (105, 25, (1, [], [], [(0, .inl 1), (1, .inl 19)], [], [(1, (0, .ofNat 7), .inr (false, (0, .ofNat 0)))], [], []), [(1, 4), (1, 5), (1, 6), (1, 7), (1, 8), (1, 9), (1, 10), (19, 3), (20, 0)], [
  (2, [(1, .ofNat 0, .ofNat 4)], [], [], [], [(1, (0, .ofNat 3), .inr (false, (1, .ofNat 0))), (1, (0, .ofNat 7), .inr (false, (0, .ofNat 0)))], [], [])], [], 0, 0)
def cu319 : List sxCu := [
  (7, (3, [(1, .ofNat 0, .ofNat 200), (2, .ofNat 0, .ofNat 4)], [], [(0, .inl 1), (1, .inl 19), (2, .inr (false, (1, .ofNat 0)))], [], [(1, (0, .ofNat 3), .inr (false, (2, .ofNat 0))), (1, (0, .ofNat 7), .inr (false, (0, .ofNat 0)))], [], []), ((0, 1, .ofNat 200), (0, 0, .ofNat 0), (0, 0, .ofNat 0)), 0, 0)]
set_option maxRecDepth 1000000 in
theorem cv319 {gh : sxGh} (hg : sxGd sxKw gh) : sxCtV sxKw gh ct319 := sxMeB_ok (cts := [ct2, ct114, ct318]) (cuts := cu319) (sp := []) 111 (by decide +kernel) hg (by decide) (by decide) (List.forall_mem_cons.mpr ⟨cv2 hg, (List.forall_mem_cons.mpr ⟨cv114 hg, (List.forall_mem_cons.mpr ⟨cv318 hg, (fun _ h => absurd h List.not_mem_nil)⟩)⟩)⟩)
/-- LotBeliefs.TongueReader.readEither -/
def ct320 : sxCt := (104, 26, (1, [], [], [(0, .inl 1), (1, .inl 19)], [], [(1, (0, .ofNat 7), .inr (false, (0, .ofNat 0)))], [], []), [(1, 4), (1, 5), (1, 6), (1, 7), (1, 8), (1, 9), (1, 10), (19, 3), (20, 0)], [
  (2, [(1, .ofNat 0, .ofNat 4)], [], [], [], [(1, (0, .ofNat 3), .inr (false, (1, .ofNat 0))), (1, (0, .ofNat 7), .inr (false, (0, .ofNat 0)))], [], [])], [], 0, 0)
def cu320 : List sxCu := [
  (7, (3, [(1, .ofNat 0, .ofNat 200), (2, .ofNat 0, .ofNat 4)], [], [(0, .inl 1), (1, .inl 19), (2, .inr (false, (1, .ofNat 0)))], [], [(1, (0, .ofNat 3), .inr (false, (2, .ofNat 0))), (1, (0, .ofNat 7), .inr (false, (0, .ofNat 0)))], [], []), ((0, 1, .ofNat 200), (0, 0, .ofNat 0), (0, 0, .ofNat 0)), 0, 0)]
set_option maxRecDepth 1000000 in
theorem cv320 {gh : sxGh} (hg : sxGd sxKw gh) : sxCtV sxKw gh ct320 := sxMeB_ok (cts := [ct2, ct116, ct319]) (cuts := cu320) (sp := []) 111 (by decide +kernel) hg (by decide) (by decide) (List.forall_mem_cons.mpr ⟨cv2 hg, (List.forall_mem_cons.mpr ⟨cv116 hg, (List.forall_mem_cons.mpr ⟨cv319 hg, (fun _ h => absurd h List.not_mem_nil)⟩)⟩)⟩)
/-- LotBeliefs.TongueReader.read -/
def ct321 : sxCt := (102, 27, (1, [], [], [(0, .inl 1), (1, .inl 19)], [], [(1, (0, .ofNat 7), .inr (false, (0, .ofNat 0)))], [], []), [(1, 4), (1, 5), (1, 6), (1, 7), (1, 8), (1, 9), (1, 10), (19, 1), (19, 3), (20, 0)], [
  (3, [(1, .ofNat 0, .ofNat 10), (2, .ofNat 0, .ofNat 201)], [(2, 1, .ofNat 200)], [], [], [(1, (0, .ofNat 7), .inr (false, (0, .ofNat 0))), (19, (0, .ofNat 0), .inr (false, (1, .ofNat 0))), (19, (0, .ofNat 2), .inr (false, (2, .ofNat 0)))], [], [])], [], 0, 0)
def cu321 : List sxCu := [
  (6, (4, [(1, .ofNat 0, .ofNat 200), (2, .ofNat 0, .ofNat 10), (3, .ofNat 0, .ofNat 201)], [(2, 1, .ofNat 0), (3, 1, .ofNat 200), (3, 2, .ofNat 200)], [(0, .inl 1), (1, .inl 19), (2, .inr (false, (1, .ofNat 0)))], [], [(1, (0, .ofNat 7), .inr (false, (0, .ofNat 0))), (19, (0, .ofNat 0), .inr (false, (2, .ofNat 0))), (19, (0, .ofNat 2), .inr (false, (3, .ofNat 0)))], [], []), ((0, 1, .ofNat 200), (0, 0, .ofNat 0), (0, 0, .ofNat 0)), 0, 0)]
set_option maxRecDepth 1000000 in
theorem cv321 {gh : sxGh} (hg : sxGd sxKw gh) : sxCtV sxKw gh ct321 := sxMeB_ok (cts := [ct2, ct96, ct161, ct160, ct320]) (cuts := cu321) (sp := []) 957 (by decide +kernel) hg (by decide) (by decide) (List.forall_mem_cons.mpr ⟨cv2 hg, (List.forall_mem_cons.mpr ⟨cv96 hg, (List.forall_mem_cons.mpr ⟨cv161 hg, (List.forall_mem_cons.mpr ⟨cv160 hg, (List.forall_mem_cons.mpr ⟨cv320 hg, (fun _ h => absurd h List.not_mem_nil)⟩)⟩)⟩)⟩)⟩)
/-- LotBeliefs.kin -/
def ct322 : sxCt := (122, 1, (4, [(1, .ofNat 0, .ofNat 11), (2, .ofNat 0, .ofNat 11), (3, .ofNat 0, .ofNat 12)], [(1, 3, .negSucc 0), (2, 3, .negSucc 0)], [(0, .inl 0), (1, .inr (false, (1, .ofNat 0))), (2, .inr (false, (2, .ofNat 0)))], [], [(0, (0, .ofNat 2), .inl 3), (3, (0, .ofNat 2), .inr (false, (3, .ofNat 0)))], [], []), [], [
  (5, [(4, .ofNat 0, .ofNat 4)], [], [], [.inr (false, (4, .ofNat 0))], [(0, (0, .ofNat 2), .inl 3), (3, (0, .ofNat 2), .inr (false, (3, .ofNat 0)))], [], [])], [], 0, 0)
def cu322 : List sxCu := []
set_option maxRecDepth 1000000 in
theorem cv322 {gh : sxGh} (hg : sxGd sxKw gh) : sxCtV sxKw gh ct322 := sxMeB_ok (cts := []) (cuts := cu322) (sp := []) 294 (by decide +kernel) hg (by decide) (by decide) (fun _ h => absurd h List.not_mem_nil)
/-- LotBeliefsModel.kin -/
def ct323 : sxCt := (248, 2, (4, [(1, .ofNat 0, .ofNat 11), (2, .ofNat 0, .ofNat 11), (3, .ofNat 0, .ofNat 12)], [(1, 3, .negSucc 0), (2, 3, .negSucc 0)], [(0, .inl 78), (1, .inr (false, (1, .ofNat 0))), (2, .inr (false, (2, .ofNat 0)))], [], [(82, (0, .ofNat 1), .inr (false, (3, .ofNat 0)))], [], []), [(78, 1)], [
  (5, [(4, .ofNat 0, .ofNat 4)], [], [], [.inr (false, (4, .ofNat 0))], [(78, (0, .ofNat 0), .inr (false, (0, .ofNat 0))), (82, (0, .ofNat 1), .inr (false, (3, .ofNat 0)))], [], [])], [], 0, 0)
def cu323 : List sxCu := []
set_option maxRecDepth 1000000 in
theorem cv323 {gh : sxGh} (hg : sxGd sxKw gh) : sxCtV sxKw gh ct323 := sxMeB_ok (cts := []) (cuts := cu323) (sp := []) 287 (by decide +kernel) hg (by decide) (by decide) (fun _ h => absurd h List.not_mem_nil)
/-- LotBeliefs.Jar.slipsSoIn -/
def ct324 : sxCt := (26, 1, (2, [(1, .ofNat 0, .ofNat 63)], [], [(0, .inl 3), (1, .inr (false, (1, .ofNat 0)))], [], [], [], []), [], [
  (3, [(2, .ofNat 0, .ofNat 4095)], [], [], [.inr (false, (2, .ofNat 0))], [], [], [])], [], 0, 0)
def cu324 : List sxCu := [
  (4, (4, [(1, .ofNat 0, .ofNat 63), (2, .ofNat 0, .ofNat 4095), (3, .ofNat 0, .ofNat 12)], [], [(0, .inl 3), (1, .inr (false, (1, .ofNat 0))), (2, .inr (false, (2, .ofNat 0))), (3, .inr (false, (3, .ofNat 0)))], [], [], [], []), ((0, 3, .ofNat 12), (0, 0, .ofNat 0), (0, 0, .ofNat 0)), 0, 0)]
set_option maxRecDepth 1000000 in
theorem cv324 {gh : sxGh} (hg : sxGd sxKw gh) : sxCtV sxKw gh ct324 := sxMeB_ok (cts := []) (cuts := cu324) (sp := []) 103 (by decide +kernel) hg (by decide) (by decide) (fun _ h => absurd h List.not_mem_nil)
/-- LotBeliefsModel.truthsNow -/
def ct325 : sxCt := (252, 1, (1, [], [], [(0, .inl 78)], [], [], [], []), [], [
  (2, [(1, .ofNat 0, .ofNat 4095)], [], [], [.inr (false, (1, .ofNat 0))], [], [], [])], [], 0, 0)
def cu325 : List sxCu := [
  (4, (3, [(1, .ofNat 0, .ofNat 4095), (2, .ofNat 0, .ofNat 12)], [], [(0, .inl 78), (1, .inr (false, (1, .ofNat 0))), (2, .inr (false, (2, .ofNat 0)))], [], [], [], []), ((0, 2, .ofNat 12), (0, 0, .ofNat 0), (0, 0, .ofNat 0)), 0, 0)]
set_option maxRecDepth 1000000 in
theorem cv325 {gh : sxGh} (hg : sxGd sxKw gh) : sxCtV sxKw gh ct325 := sxMeB_ok (cts := []) (cuts := cu325) (sp := []) 111 (by decide +kernel) hg (by decide) (by decide) (fun _ h => absurd h List.not_mem_nil)
/-- LotBeliefs.dull -/
def ct326 : sxCt := (125, 0, (1, [], [], [(0, .inl 0)], [], [], [], []), [], [
  (2, [(1, .ofNat 0, .ofNat 4095)], [], [], [.inr (false, (1, .ofNat 0))], [], [], [])], [], 0, 0)
def cu326 : List sxCu := [
  (4, (3, [(1, .ofNat 0, .ofNat 4095), (2, .ofNat 0, .ofNat 12)], [], [(0, .inl 0), (1, .inr (false, (1, .ofNat 0))), (2, .inr (false, (2, .ofNat 0)))], [], [], [], []), ((0, 2, .ofNat 12), (0, 0, .ofNat 0), (0, 0, .ofNat 0)), 0, 0)]
set_option maxRecDepth 1000000 in
theorem cv326 {gh : sxGh} (hg : sxGd sxKw gh) : sxCtV sxKw gh ct326 := sxMeB_ok (cts := []) (cuts := cu326) (sp := []) 139 (by decide +kernel) hg (by decide) (by decide) (fun _ h => absurd h List.not_mem_nil)
/-- LotBeliefsModel.dull -/
def ct327 : sxCt := (254, 0, (1, [], [], [(0, .inl 78)], [], [], [], []), [(78, 1)], [
  (2, [(1, .ofNat 0, .ofNat 4095)], [], [], [.inr (false, (1, .ofNat 0))], [(78, (0, .ofNat 0), .inr (false, (0, .ofNat 0)))], [], [])], [], 0, 0)
def cu327 : List sxCu := [
  (9, (3, [(1, .ofNat 0, .ofNat 4095), (2, .ofNat 0, .ofNat 12)], [], [(0, .inl 78), (1, .inr (false, (1, .ofNat 0))), (2, .inr (false, (2, .ofNat 0)))], [], [(78, (0, .ofNat 0), .inr (false, (0, .ofNat 0)))], [], []), ((0, 2, .ofNat 12), (0, 0, .ofNat 0), (0, 0, .ofNat 0)), 0, 0)]
set_option maxRecDepth 1000000 in
theorem cv327 {gh : sxGh} (hg : sxGd sxKw gh) : sxCtV sxKw gh ct327 := sxMeB_ok (cts := []) (cuts := cu327) (sp := []) 111 (by decide +kernel) hg (by decide) (by decide) (fun _ h => absurd h List.not_mem_nil)
/-- LotBeliefs.takeOrder -/
def ct328 : sxCt := (182, 1, (2, [(1, .negSucc 9223372036854775807, .ofNat 9223372036854775807)], [], [(0, .inl 0), (1, .inr (true, (1, .ofNat 0)))], [], [], [], []), [(28, 0)], [
  (2, [], [], [], [], [], [], [])], [], 0, 0)
def cu328 : List sxCu := [
  (2, (3, [(1, .negSucc 9223372036854775807, .ofNat 9223372036854775807), (2, .ofNat 0, .ofNat 12)], [], [(0, .inl 0), (1, .inr (true, (1, .ofNat 0))), (3, .inr (false, (2, .ofNat 0)))], [], [], [], []), ((0, 2, .ofNat 12), (0, 0, .ofNat 0), (0, 0, .ofNat 0)), 0, 0)]
set_option maxRecDepth 1000000 in
theorem cv328 {gh : sxGh} (hg : sxGd sxKw gh) : sxCtV sxKw gh ct328 := sxMeB_ok (cts := []) (cuts := cu328) (sp := []) 123 (by decide +kernel) hg (by decide) (by decide) (fun _ h => absurd h List.not_mem_nil)
/-- LotBeliefs.order -/
def ct329 : sxCt := (126, 2, (2, [(1, .negSucc 9223372036854775807, .ofNat 9223372036854775807)], [], [(0, .inl 0), (1, .inr (true, (1, .ofNat 0)))], [], [], [], []), [(28, 0)], [
  (3, [(2, .ofNat 0, .ofNat 1)], [], [], [.inr (false, (2, .ofNat 0))], [], [], [])], [], 0, 0)
def cu329 : List sxCu := [
  (23, (4, [(1, .negSucc 9223372036854775807, .ofNat 9223372036854775807), (2, .ofNat 0, .ofNat 4095), (3, .ofNat 0, .ofNat 12)], [], [(0, .inl 0), (1, .inr (true, (1, .ofNat 0))), (3, .inr (false, (2, .ofNat 0))), (4, .inr (false, (3, .ofNat 0)))], [], [], [], []), ((0, 3, .ofNat 12), (0, 0, .ofNat 0), (0, 0, .ofNat 0)), 0, 0)]
set_option maxRecDepth 1000000 in
theorem cv329 {gh : sxGh} (hg : sxGd sxKw gh) : sxCtV sxKw gh ct329 := sxMeB_ok (cts := [ct328]) (cuts := cu329) (sp := []) 201 (by decide +kernel) hg (by decide) (by decide) (List.forall_mem_cons.mpr ⟨cv328 hg, (fun _ h => absurd h List.not_mem_nil)⟩)
/-- LotBeliefsModel.order -/
def ct330 : sxCt := (255, 2, (2, [(1, .negSucc 9223372036854775807, .ofNat 9223372036854775807)], [], [(0, .inl 78), (1, .inr (true, (1, .ofNat 0)))], [], [], [], []), [(78, 1), (90, 0), (560, 0)], [
  (3, [(2, .ofNat 0, .ofNat 1)], [], [], [.inr (false, (2, .ofNat 0))], [(78, (0, .ofNat 0), .inr (false, (0, .ofNat 0)))], [], [])], [], 0, 0)
def cu330 : List sxCu := [
  (112, (5, [(1, .ofNat 0, .ofNat 9223372036854775807), (2, .ofNat 0, .ofNat 4095), (3, .ofNat 0, .ofNat 12), (4, .ofNat 0, .ofNat 12)], [(3, 4, .ofNat 0)], [(0, .inl 78), (1, .inr (true, (1, .ofNat 0))), (3, .inr (true, (0, .ofNat 0))), (5, .inr (false, (2, .ofNat 0))), (6, .inr (false, (3, .ofNat 0)))], [], [(78, (0, .ofNat 0), .inr (false, (0, .ofNat 0))), (78, (0, .ofNat 12), .inl 82), (82, (0, .ofNat 1), .inr (false, (4, .ofNat 0)))], [], []), ((0, 3, .ofNat 12), (0, 0, .ofNat 0), (0, 0, .ofNat 0)), 0, 0), 
  (20, (6, [(1, .negSucc 9223372036854775807, .ofNat 9223372036854775807), (2, .negSucc 9223372036854775807, .ofNat 9223372036854775807), (3, .ofNat 0, .ofNat 4095), (4, .negSucc 0, .ofNat 11), (5, .ofNat 0, .ofNat 12)], [(4, 5, .negSucc 0)], [(0, .inl 78), (1, .inr (true, (1, .ofNat 0))), (3, .inr (true, (2, .ofNat 0))), (5, .inr (false, (3, .ofNat 0))), (6, .inr (false, (4, .ofNat 0)))], [], [(78, (0, .ofNat 0), .inr (false, (0, .ofNat 0))), (78, (0, .ofNat 12), .inl 82), (82, (0, .ofNat 1), .inr (false, (5, .ofNat 0)))], [], []), ((4, 0, .ofNat 14), (0, 0, .ofNat 0), (0, 0, .ofNat 0)), 0, 0)]
set_option maxRecDepth 1000000 in
theorem cv330 {gh : sxGh} (hg : sxGd sxKw gh) : sxCtV sxKw gh ct330 := sxMeB_ok (cts := []) (cuts := cu330) (sp := []) 209 (by decide +kernel) hg (by decide) (by decide) (fun _ h => absurd h List.not_mem_nil)
/-- LotBeliefs.Course.seat -/
def ct331 : sxCt := (4, 0, (2, [(1, .ofNat 0, .ofNat 16)], [], [(0, .inl 32), (1, .inr (false, (1, .ofNat 0)))], [], [], [], []), [(32, 11), (32, 12), (34000037, 0)], [
  (3, [(2, .ofNat 1, .ofNat 17)], [], [], [], [(32, (0, .ofNat 10), .inr (false, (2, .ofNat 0)))], [], [])], [], 0, 0)
def cu331 : List sxCu := []
set_option maxRecDepth 1000000 in
theorem cv331 {gh : sxGh} (hg : sxGd sxKw gh) : sxCtV sxKw gh ct331 := sxMeB_ok (cts := []) (cuts := cu331) (sp := []) 103 (by decide +kernel) hg (by decide) (by decide) (fun _ h => absurd h List.not_mem_nil)
/-- LotBeliefs.Course.goBack -/
def ct332 : sxCt := (3, 1, (2, [(1, .ofNat 0, .ofNat 1)], [], [(0, .inl 32), (1, .inl 28), (2, .inr (false, (1, .ofNat 0)))], [], [], [], []), [(32, 11), (32, 12), (33000037, 0)], [
  (3, [(2, .ofNat 0, .ofNat 17)], [], [], [], [(32, (0, .ofNat 10), .inr (false, (2, .ofNat 0)))], [], [])], [], 0, 0)
def cu332 : List sxCu := [
  (12, (3, [(1, .ofNat 0, .ofNat 1), (2, .ofNat 0, .ofNat 17)], [], [(0, .inl 32), (1, .inl 28), (2, .inr (false, (1, .ofNat 0))), (3, .inr (false, (2, .ofNat 0)))], [], [(32, (0, .ofNat 10), .inr (false, (0, .ofNat 0))), (32, (0, .ofNat 11), .inr (false, (0, .ofNat 0)))], [], []), ((0, 2, .ofNat 19), (0, 0, .ofNat 0), (0, 0, .ofNat 0)), 0, 0), 
  (46, (4, [(1, .ofNat 0, .ofNat 1), (2, .ofNat 0, .ofNat 1), (3, .ofNat 0, .ofNat 17)], [], [(0, .inl 32), (1, .inl 28), (2, .inr (false, (1, .ofNat 0))), (3, .inr (false, (2, .ofNat 0)))], [], [(32, (0, .ofNat 4), .inl 33), (32, (0, .ofNat 10), .inr (false, (3, .ofNat 0)))], [], []), ((0, 2, .ofNat 1), (0, 0, .ofNat 0), (0, 0, .ofNat 0)), 0, 0)]
set_option maxRecDepth 1000000 in
theorem cv332 {gh : sxGh} (hg : sxGd sxKw gh) : sxCtV sxKw gh ct332 := sxMeB_ok (cts := [ct331]) (cuts := cu332) (sp := []) 123 (by decide +kernel) hg (by decide) (by decide) (List.forall_mem_cons.mpr ⟨cv331 hg, (fun _ h => absurd h List.not_mem_nil)⟩)
/-- LotBeliefs.Jar.deathWeek -/
def ct333 : sxCt := (22, 0, (2, [(1, .ofNat 0, .ofNat 16)], [], [(0, .inl 11), (1, .inr (false, (1, .ofNat 0)))], [], [], [], []), [], [
  (3, [(2, .ofNat 0, .ofNat 52)], [], [], [.inr (false, (2, .ofNat 0))], [], [], [])], [], 0, 0)
def cu333 : List sxCu := [
  (2, (3, [(1, .ofNat 0, .ofNat 16), (2, .ofNat 0, .ofNat 52)], [], [(0, .inl 11), (1, .inr (false, (1, .ofNat 0))), (2, .inr (false, (2, .ofNat 0)))], [], [], [], []), ((0, 2, .ofNat 52), (0, 0, .ofNat 0), (0, 0, .ofNat 0)), 0, 0)]
set_option maxRecDepth 1000000 in
theorem cv333 {gh : sxGh} (hg : sxGd sxKw gh) : sxCtV sxKw gh ct333 := sxMeB_ok (cts := []) (cuts := cu333) (sp := []) 80 (by decide +kernel) hg (by decide) (by decide) (fun _ h => absurd h List.not_mem_nil)
/-- LotBeliefs.Jar.deathWeek -/
def ct334 : sxCt := (22, 0, (2, [(1, .ofNat 0, .ofNat 16)], [], [(0, .inl 3), (1, .inr (false, (1, .ofNat 0)))], [], [], [], []), [], [
  (3, [(2, .ofNat 0, .ofNat 52)], [], [], [.inr (false, (2, .ofNat 0))], [], [], [])], [], 0, 0)
def cu334 : List sxCu := [
  (2, (3, [(1, .ofNat 0, .ofNat 16), (2, .ofNat 0, .ofNat 52)], [], [(0, .inl 3), (1, .inr (false, (1, .ofNat 0))), (2, .inr (false, (2, .ofNat 0)))], [], [], [], []), ((0, 2, .ofNat 52), (0, 0, .ofNat 0), (0, 0, .ofNat 0)), 0, 0)]
set_option maxRecDepth 1000000 in
theorem cv334 {gh : sxGh} (hg : sxGd sxKw gh) : sxCtV sxKw gh ct334 := sxMeB_ok (cts := []) (cuts := cu334) (sp := []) 80 (by decide +kernel) hg (by decide) (by decide) (fun _ h => absurd h List.not_mem_nil)
/-- LotBeliefs.Tongue.tell -/
def ct337 : sxCt := (98, 1, (7, [(1, .ofNat 0, .ofNat 16), (2, .ofNat 0, .ofNat 16), (3, .negSucc 2147483647, .ofNat 2147483647), (4, .ofNat 0, .ofNat 1), (5, .ofNat 0, .ofNat 16), (6, .ofNat 0, .ofNat 17)], [], [(0, .inl 23), (1, .inl 11), (2, .inr (false, (1, .ofNat 0))), (3, .inr (false, (2, .ofNat 0))), (4, .inr (false, (3, .ofNat 0))), (5, .inr (false, (4, .ofNat 0))), (6, .inr (false, (5, .ofNat 0))), (7, .inr (false, (6, .ofNat 0)))], [], [], [], []), [(25, 0)], [
  (11, [(7, .negSucc 2147483647, .ofNat 2147483647), (8, .negSucc 2147483647, .ofNat 2147483647), (9, .ofNat 0, .ofNat 127), (10, .ofNat 0, .ofNat 127)], [], [], [], [(25, (0, .ofNat 0), .inr (false, (3, .ofNat 0))), (25, (0, .ofNat 1), .inr (false, (4, .ofNat 0))), (25, (0, .ofNat 2), .inr (false, (7, .ofNat 0))), (25, (0, .ofNat 3), .inr (false, (8, .ofNat 0))), (25, (0, .ofNat 4), .inr (false, (1, .ofNat 0))), (25, (0, .ofNat 5), .inr (false, (2, .ofNat 0))), (25, (0, .ofNat 6), .inr (false, (5, .ofNat 0))), (25, (0, .ofNat 7), .inr (false, (6, .ofNat 0))), (25, (0, .ofNat 8), .inr (false, (9, .ofNat 0))), (25, (0, .ofNat 9), .inr (false, (10, .ofNat 0)))], [], [])], [], 0, 0)
def cu337 : List sxCu := []
set_option maxRecDepth 1000000 in
theorem cv337 {gh : sxGh} (hg : sxGd sxKw gh) : sxCtV sxKw gh ct337 := sxMeB_ok (cts := [ct95]) (cuts := cu337) (sp := []) 132 (by decide +kernel) hg (by decide) (by decide) (List.forall_mem_cons.mpr ⟨cv95 hg, (fun _ h => absurd h List.not_mem_nil)⟩)
/-- LotBeliefs.Tongue.reckon -/
def ct338 : sxCt := (101, 0, (4, [(1, .ofNat 0, .ofNat 4095), (2, .negSucc 2147483647, .ofNat 2147483647), (3, .negSucc 2147483647, .ofNat 2147483647)], [], [(0, .inr (false, (1, .ofNat 0))), (1, .inr (false, (2, .ofNat 0))), (2, .inr (false, (3, .ofNat 0)))], [], [], [], []), [], [
  (5, [(4, .negSucc 2147483647, .ofNat 2147483647)], [], [], [.inr (false, (4, .ofNat 0))], [], [], [])], [], 0, 0)
def cu338 : List sxCu := []
set_option maxRecDepth 1000000 in
theorem cv338 {gh : sxGh} (hg : sxGd sxKw gh) : sxCtV sxKw gh ct338 := sxMeB_ok (cts := []) (cuts := cu338) (sp := []) 110 (by decide +kernel) hg (by decide) (by decide) (fun _ h => absurd h List.not_mem_nil)
/-- LotBeliefs.Tongue.reckon -/
def ct339 : sxCt := (101, 0, (4, [(1, .negSucc 2147483647, .ofNat 2147483647), (2, .negSucc 2147483647, .ofNat 2147483647), (3, .negSucc 2147483647, .ofNat 2147483647)], [], [(0, .inr (false, (1, .ofNat 0))), (1, .inr (false, (2, .ofNat 0))), (2, .inr (false, (3, .ofNat 0)))], [], [], [], []), [], [
  (5, [(4, .negSucc 2147483647, .ofNat 2147483647)], [], [], [.inr (false, (4, .ofNat 0))], [], [], [])], [], 0, 0)
def cu339 : List sxCu := []
set_option maxRecDepth 1000000 in
theorem cv339 {gh : sxGh} (hg : sxGd sxKw gh) : sxCtV sxKw gh ct339 := sxMeB_ok (cts := []) (cuts := cu339) (sp := []) 110 (by decide +kernel) hg (by decide) (by decide) (fun _ h => absurd h List.not_mem_nil)
/-- LotBeliefs.Tongue.whoFalls -/
def ct340 : sxCt := (99, 1, (1, [], [], [(0, .inl 23)], [], [], [], []), [(26, 0)], [
  (2, [(1, .ofNat 0, .ofNat 2147480647)], [], [], [.inr (false, (1, .ofNat 0))], [], [], [])], [], 0, 0)
def cu340 : List sxCu := [
  (4, (3, [(1, .ofNat 0, .ofNat 64), (2, .ofNat 0, .ofNat 201)], [(1, 2, .ofNat 0)], [(0, .inl 23), (1, .inr (false, (1, .ofNat 0))), (2, .inr (false, (2, .ofNat 0)))], [], [], [], []), ((0, 2, .ofNat 201), (0, 0, .ofNat 0), (0, 0, .ofNat 0)), 0, 0)]
set_option maxRecDepth 1000000 in
theorem cv340 {gh : sxGh} (hg : sxGd sxKw gh) : sxCtV sxKw gh ct340 := sxMeB_ok (cts := [ct338, ct339]) (cuts := cu340) (sp := []) 239 (by decide +kernel) hg (by decide) (by decide) (List.forall_mem_cons.mpr ⟨cv338 hg, (List.forall_mem_cons.mpr ⟨cv339 hg, (fun _ h => absurd h List.not_mem_nil)⟩)⟩)
/-- LotBeliefs.Tongue.tell -/
def ct341 : sxCt := (98, 1, (7, [(1, .ofNat 0, .ofNat 16), (2, .ofNat 0, .ofNat 16), (3, .negSucc 2147483647, .ofNat 2147483647), (4, .ofNat 0, .ofNat 1), (5, .ofNat 0, .ofNat 16), (6, .ofNat 0, .ofNat 17)], [], [(0, .inl 19), (1, .inl 11), (2, .inr (false, (1, .ofNat 0))), (3, .inr (false, (2, .ofNat 0))), (4, .inr (false, (3, .ofNat 0))), (5, .inr (false, (4, .ofNat 0))), (6, .inr (false, (5, .ofNat 0))), (7, .inr (false, (6, .ofNat 0)))], [], [], [], []), [(21, 0)], [
  (11, [(7, .negSucc 2147483647, .ofNat 2147483647), (8, .negSucc 2147483647, .ofNat 2147483647), (9, .ofNat 0, .ofNat 127), (10, .ofNat 0, .ofNat 127)], [], [], [], [(21, (0, .ofNat 0), .inr (false, (3, .ofNat 0))), (21, (0, .ofNat 1), .inr (false, (4, .ofNat 0))), (21, (0, .ofNat 2), .inr (false, (7, .ofNat 0))), (21, (0, .ofNat 3), .inr (false, (8, .ofNat 0))), (21, (0, .ofNat 4), .inr (false, (1, .ofNat 0))), (21, (0, .ofNat 5), .inr (false, (2, .ofNat 0))), (21, (0, .ofNat 6), .inr (false, (5, .ofNat 0))), (21, (0, .ofNat 7), .inr (false, (6, .ofNat 0))), (21, (0, .ofNat 8), .inr (false, (9, .ofNat 0))), (21, (0, .ofNat 9), .inr (false, (10, .ofNat 0)))], [], [])], [], 0, 0)
def cu341 : List sxCu := []
set_option maxRecDepth 1000000 in
theorem cv341 {gh : sxGh} (hg : sxGd sxKw gh) : sxCtV sxKw gh ct341 := sxMeB_ok (cts := [ct95]) (cuts := cu341) (sp := []) 132 (by decide +kernel) hg (by decide) (by decide) (List.forall_mem_cons.mpr ⟨cv95 hg, (fun _ h => absurd h List.not_mem_nil)⟩)
/-- LotBeliefs.Tongue.whoFalls -/
def ct342 : sxCt := (99, 1, (1, [], [], [(0, .inl 19)], [], [], [], []), [(22, 0)], [
  (2, [(1, .ofNat 0, .ofNat 2147480647)], [], [], [.inr (false, (1, .ofNat 0))], [], [], [])], [], 0, 0)
def cu342 : List sxCu := [
  (4, (3, [(1, .ofNat 0, .ofNat 64), (2, .ofNat 0, .ofNat 201)], [(1, 2, .ofNat 0)], [(0, .inl 19), (1, .inr (false, (1, .ofNat 0))), (2, .inr (false, (2, .ofNat 0)))], [], [], [], []), ((0, 2, .ofNat 201), (0, 0, .ofNat 0), (0, 0, .ofNat 0)), 0, 0)]
set_option maxRecDepth 1000000 in
theorem cv342 {gh : sxGh} (hg : sxGd sxKw gh) : sxCtV sxKw gh ct342 := sxMeB_ok (cts := [ct338, ct339]) (cuts := cu342) (sp := []) 239 (by decide +kernel) hg (by decide) (by decide) (List.forall_mem_cons.mpr ⟨cv338 hg, (List.forall_mem_cons.mpr ⟨cv339 hg, (fun _ h => absurd h List.not_mem_nil)⟩)⟩)
/-- LotBeliefs.Tongue.tell -/
def ct343 : sxCt := (98, 1, (7, [(1, .ofNat 0, .ofNat 16), (2, .ofNat 0, .ofNat 16), (3, .negSucc 2147483647, .ofNat 2147483647), (4, .negSucc 2147483647, .ofNat 2147483647), (5, .ofNat 0, .ofNat 16), (6, .ofNat 0, .ofNat 17)], [], [(0, .inl 23), (1, .inl 11), (2, .inr (false, (1, .ofNat 0))), (3, .inr (false, (2, .ofNat 0))), (4, .inr (false, (3, .ofNat 0))), (5, .inr (false, (4, .ofNat 0))), (6, .inr (false, (5, .ofNat 0))), (7, .inr (false, (6, .ofNat 0)))], [], [], [], []), [(25, 0)], [
  (11, [(7, .negSucc 2147483647, .ofNat 2147483647), (8, .negSucc 2147483647, .ofNat 2147483647), (9, .ofNat 0, .ofNat 127), (10, .ofNat 0, .ofNat 127)], [], [], [], [(25, (0, .ofNat 0), .inr (false, (3, .ofNat 0))), (25, (0, .ofNat 1), .inr (false, (4, .ofNat 0))), (25, (0, .ofNat 2), .inr (false, (7, .ofNat 0))), (25, (0, .ofNat 3), .inr (false, (8, .ofNat 0))), (25, (0, .ofNat 4), .inr (false, (1, .ofNat 0))), (25, (0, .ofNat 5), .inr (false, (2, .ofNat 0))), (25, (0, .ofNat 6), .inr (false, (5, .ofNat 0))), (25, (0, .ofNat 7), .inr (false, (6, .ofNat 0))), (25, (0, .ofNat 8), .inr (false, (9, .ofNat 0))), (25, (0, .ofNat 9), .inr (false, (10, .ofNat 0)))], [], [])], [], 0, 0)
def cu343 : List sxCu := []
set_option maxRecDepth 1000000 in
theorem cv343 {gh : sxGh} (hg : sxGd sxKw gh) : sxCtV sxKw gh ct343 := sxMeB_ok (cts := [ct95]) (cuts := cu343) (sp := []) 132 (by decide +kernel) hg (by decide) (by decide) (List.forall_mem_cons.mpr ⟨cv95 hg, (fun _ h => absurd h List.not_mem_nil)⟩)
/-- LotBeliefs.Tongue.tell -/
def ct344 : sxCt := (98, 1, (7, [(1, .ofNat 0, .ofNat 16), (2, .ofNat 0, .ofNat 16), (3, .negSucc 2147483647, .ofNat 2147483647), (4, .negSucc 2147483647, .ofNat 2147483647), (5, .ofNat 0, .ofNat 16), (6, .ofNat 0, .ofNat 17)], [], [(0, .inl 19), (1, .inl 11), (2, .inr (false, (1, .ofNat 0))), (3, .inr (false, (2, .ofNat 0))), (4, .inr (false, (3, .ofNat 0))), (5, .inr (false, (4, .ofNat 0))), (6, .inr (false, (5, .ofNat 0))), (7, .inr (false, (6, .ofNat 0)))], [], [], [], []), [(21, 0)], [
  (11, [(7, .negSucc 2147483647, .ofNat 2147483647), (8, .negSucc 2147483647, .ofNat 2147483647), (9, .ofNat 0, .ofNat 127), (10, .ofNat 0, .ofNat 127)], [], [], [], [(21, (0, .ofNat 0), .inr (false, (3, .ofNat 0))), (21, (0, .ofNat 1), .inr (false, (4, .ofNat 0))), (21, (0, .ofNat 2), .inr (false, (7, .ofNat 0))), (21, (0, .ofNat 3), .inr (false, (8, .ofNat 0))), (21, (0, .ofNat 4), .inr (false, (1, .ofNat 0))), (21, (0, .ofNat 5), .inr (false, (2, .ofNat 0))), (21, (0, .ofNat 6), .inr (false, (5, .ofNat 0))), (21, (0, .ofNat 7), .inr (false, (6, .ofNat 0))), (21, (0, .ofNat 8), .inr (false, (9, .ofNat 0))), (21, (0, .ofNat 9), .inr (false, (10, .ofNat 0)))], [], [])], [], 0, 0)
def cu344 : List sxCu := []
set_option maxRecDepth 1000000 in
theorem cv344 {gh : sxGh} (hg : sxGd sxKw gh) : sxCtV sxKw gh ct344 := sxMeB_ok (cts := [ct95]) (cuts := cu344) (sp := []) 132 (by decide +kernel) hg (by decide) (by decide) (List.forall_mem_cons.mpr ⟨cv95 hg, (fun _ h => absurd h List.not_mem_nil)⟩)
/-- LotBeliefs.Tongue.tell -/
def ct345 : sxCt := (98, 1, (7, [(1, .ofNat 0, .ofNat 16), (2, .ofNat 0, .ofNat 16), (3, .negSucc 2147483647, .ofNat 2147483647), (4, .ofNat 0, .ofNat 1), (5, .ofNat 0, .ofNat 16), (6, .ofNat 0, .ofNat 17)], [], [(0, .inl 23), (1, .inl 3), (2, .inr (false, (1, .ofNat 0))), (3, .inr (false, (2, .ofNat 0))), (4, .inr (false, (3, .ofNat 0))), (5, .inr (false, (4, .ofNat 0))), (6, .inr (false, (5, .ofNat 0))), (7, .inr (false, (6, .ofNat 0)))], [], [], [], []), [(25, 0)], [
  (11, [(7, .negSucc 2147483647, .ofNat 2147483647), (8, .negSucc 2147483647, .ofNat 2147483647), (9, .ofNat 0, .ofNat 127), (10, .ofNat 0, .ofNat 127)], [], [], [], [(25, (0, .ofNat 0), .inr (false, (3, .ofNat 0))), (25, (0, .ofNat 1), .inr (false, (4, .ofNat 0))), (25, (0, .ofNat 2), .inr (false, (7, .ofNat 0))), (25, (0, .ofNat 3), .inr (false, (8, .ofNat 0))), (25, (0, .ofNat 4), .inr (false, (1, .ofNat 0))), (25, (0, .ofNat 5), .inr (false, (2, .ofNat 0))), (25, (0, .ofNat 6), .inr (false, (5, .ofNat 0))), (25, (0, .ofNat 7), .inr (false, (6, .ofNat 0))), (25, (0, .ofNat 8), .inr (false, (9, .ofNat 0))), (25, (0, .ofNat 9), .inr (false, (10, .ofNat 0)))], [], [])], [], 0, 0)
def cu345 : List sxCu := []
set_option maxRecDepth 1000000 in
theorem cv345 {gh : sxGh} (hg : sxGd sxKw gh) : sxCtV sxKw gh ct345 := sxMeB_ok (cts := [ct95]) (cuts := cu345) (sp := []) 132 (by decide +kernel) hg (by decide) (by decide) (List.forall_mem_cons.mpr ⟨cv95 hg, (fun _ h => absurd h List.not_mem_nil)⟩)
/-- LotBeliefs.Tongue.tell -/
def ct346 : sxCt := (98, 1, (7, [(1, .ofNat 0, .ofNat 16), (2, .ofNat 0, .ofNat 16), (3, .negSucc 2147483647, .ofNat 2147483647), (4, .ofNat 0, .ofNat 1), (5, .ofNat 0, .ofNat 16), (6, .ofNat 0, .ofNat 17)], [], [(0, .inl 19), (1, .inl 3), (2, .inr (false, (1, .ofNat 0))), (3, .inr (false, (2, .ofNat 0))), (4, .inr (false, (3, .ofNat 0))), (5, .inr (false, (4, .ofNat 0))), (6, .inr (false, (5, .ofNat 0))), (7, .inr (false, (6, .ofNat 0)))], [], [], [], []), [(21, 0)], [
  (11, [(7, .negSucc 2147483647, .ofNat 2147483647), (8, .negSucc 2147483647, .ofNat 2147483647), (9, .ofNat 0, .ofNat 127), (10, .ofNat 0, .ofNat 127)], [], [], [], [(21, (0, .ofNat 0), .inr (false, (3, .ofNat 0))), (21, (0, .ofNat 1), .inr (false, (4, .ofNat 0))), (21, (0, .ofNat 2), .inr (false, (7, .ofNat 0))), (21, (0, .ofNat 3), .inr (false, (8, .ofNat 0))), (21, (0, .ofNat 4), .inr (false, (1, .ofNat 0))), (21, (0, .ofNat 5), .inr (false, (2, .ofNat 0))), (21, (0, .ofNat 6), .inr (false, (5, .ofNat 0))), (21, (0, .ofNat 7), .inr (false, (6, .ofNat 0))), (21, (0, .ofNat 8), .inr (false, (9, .ofNat 0))), (21, (0, .ofNat 9), .inr (false, (10, .ofNat 0)))], [], [])], [], 0, 0)
def cu346 : List sxCu := []
set_option maxRecDepth 1000000 in
theorem cv346 {gh : sxGh} (hg : sxGd sxKw gh) : sxCtV sxKw gh ct346 := sxMeB_ok (cts := [ct95]) (cuts := cu346) (sp := []) 132 (by decide +kernel) hg (by decide) (by decide) (List.forall_mem_cons.mpr ⟨cv95 hg, (fun _ h => absurd h List.not_mem_nil)⟩)
/-- LotBeliefs.Tongue.tell -/
def ct347 : sxCt := (98, 1, (7, [(1, .ofNat 0, .ofNat 16), (2, .ofNat 0, .ofNat 16), (3, .negSucc 2147483647, .ofNat 2147483647), (4, .negSucc 2147483647, .ofNat 2147483647), (5, .ofNat 0, .ofNat 16), (6, .ofNat 0, .ofNat 17)], [], [(0, .inl 23), (1, .inl 3), (2, .inr (false, (1, .ofNat 0))), (3, .inr (false, (2, .ofNat 0))), (4, .inr (false, (3, .ofNat 0))), (5, .inr (false, (4, .ofNat 0))), (6, .inr (false, (5, .ofNat 0))), (7, .inr (false, (6, .ofNat 0)))], [], [], [], []), [(25, 0)], [
  (11, [(7, .negSucc 2147483647, .ofNat 2147483647), (8, .negSucc 2147483647, .ofNat 2147483647), (9, .ofNat 0, .ofNat 127), (10, .ofNat 0, .ofNat 127)], [], [], [], [(25, (0, .ofNat 0), .inr (false, (3, .ofNat 0))), (25, (0, .ofNat 1), .inr (false, (4, .ofNat 0))), (25, (0, .ofNat 2), .inr (false, (7, .ofNat 0))), (25, (0, .ofNat 3), .inr (false, (8, .ofNat 0))), (25, (0, .ofNat 4), .inr (false, (1, .ofNat 0))), (25, (0, .ofNat 5), .inr (false, (2, .ofNat 0))), (25, (0, .ofNat 6), .inr (false, (5, .ofNat 0))), (25, (0, .ofNat 7), .inr (false, (6, .ofNat 0))), (25, (0, .ofNat 8), .inr (false, (9, .ofNat 0))), (25, (0, .ofNat 9), .inr (false, (10, .ofNat 0)))], [], [])], [], 0, 0)
def cu347 : List sxCu := []
set_option maxRecDepth 1000000 in
theorem cv347 {gh : sxGh} (hg : sxGd sxKw gh) : sxCtV sxKw gh ct347 := sxMeB_ok (cts := [ct95]) (cuts := cu347) (sp := []) 132 (by decide +kernel) hg (by decide) (by decide) (List.forall_mem_cons.mpr ⟨cv95 hg, (fun _ h => absurd h List.not_mem_nil)⟩)
/-- LotBeliefs.Tongue.tell -/
def ct348 : sxCt := (98, 1, (7, [(1, .ofNat 0, .ofNat 16), (2, .ofNat 0, .ofNat 16), (3, .negSucc 2147483647, .ofNat 2147483647), (4, .negSucc 2147483647, .ofNat 2147483647), (5, .ofNat 0, .ofNat 16), (6, .ofNat 0, .ofNat 17)], [], [(0, .inl 19), (1, .inl 3), (2, .inr (false, (1, .ofNat 0))), (3, .inr (false, (2, .ofNat 0))), (4, .inr (false, (3, .ofNat 0))), (5, .inr (false, (4, .ofNat 0))), (6, .inr (false, (5, .ofNat 0))), (7, .inr (false, (6, .ofNat 0)))], [], [], [], []), [(21, 0)], [
  (11, [(7, .negSucc 2147483647, .ofNat 2147483647), (8, .negSucc 2147483647, .ofNat 2147483647), (9, .ofNat 0, .ofNat 127), (10, .ofNat 0, .ofNat 127)], [], [], [], [(21, (0, .ofNat 0), .inr (false, (3, .ofNat 0))), (21, (0, .ofNat 1), .inr (false, (4, .ofNat 0))), (21, (0, .ofNat 2), .inr (false, (7, .ofNat 0))), (21, (0, .ofNat 3), .inr (false, (8, .ofNat 0))), (21, (0, .ofNat 4), .inr (false, (1, .ofNat 0))), (21, (0, .ofNat 5), .inr (false, (2, .ofNat 0))), (21, (0, .ofNat 6), .inr (false, (5, .ofNat 0))), (21, (0, .ofNat 7), .inr (false, (6, .ofNat 0))), (21, (0, .ofNat 8), .inr (false, (9, .ofNat 0))), (21, (0, .ofNat 9), .inr (false, (10, .ofNat 0)))], [], [])], [], 0, 0)
def cu348 : List sxCu := []
set_option maxRecDepth 1000000 in
theorem cv348 {gh : sxGh} (hg : sxGd sxKw gh) : sxCtV sxKw gh ct348 := sxMeB_ok (cts := [ct95]) (cuts := cu348) (sp := []) 132 (by decide +kernel) hg (by decide) (by decide) (List.forall_mem_cons.mpr ⟨cv95 hg, (fun _ h => absurd h List.not_mem_nil)⟩)
/-- LotBeliefs.Course.whoFalls -/
def ct349 : sxCt := (9, 2, (4, [(1, .ofNat 0, .ofNat 16), (2, .ofNat 0, .ofNat 16), (3, .ofNat 0, .ofNat 16)], [], [(0, .inl 32), (1, .inr (false, (1, .ofNat 0))), (2, .inr (false, (2, .ofNat 0))), (3, .inr (false, (3, .ofNat 0)))], [], [], [], []), [(21, 0), (22, 0), (25, 0), (26, 0)], [
  (5, [(4, .ofNat 0, .ofNat 2147480647)], [], [], [.inr (false, (4, .ofNat 0))], [], [], [])], [], 0, 0)
def cu349 : List sxCu := []
set_option maxRecDepth 1000000 in
theorem cv349 {gh : sxGh} (hg : sxGd sxKw gh) : sxCtV sxKw gh ct349 := sxMeB_ok (cts := [ct337, ct341, ct345, ct346, ct343, ct344, ct347, ct348, ct340, ct342]) (cuts := cu349) (sp := []) 300 (by decide +kernel) hg (by decide) (by decide) (List.forall_mem_cons.mpr ⟨cv337 hg, (List.forall_mem_cons.mpr ⟨cv341 hg, (List.forall_mem_cons.mpr ⟨cv345 hg, (List.forall_mem_cons.mpr ⟨cv346 hg, (List.forall_mem_cons.mpr ⟨cv343 hg, (List.forall_mem_cons.mpr ⟨cv344 hg, (List.forall_mem_cons.mpr ⟨cv347 hg, (List.forall_mem_cons.mpr ⟨cv348 hg, (List.forall_mem_cons.mpr ⟨cv340 hg, (List.forall_mem_cons.mpr ⟨cv342 hg, (fun _ h => absurd h List.not_mem_nil)⟩)⟩)⟩)⟩)⟩)⟩)⟩)⟩)⟩)⟩)
/-- LotBeliefs.Course.stands -/
def ct350 : sxCt := (7, 3, (4, [(1, .ofNat 0, .ofNat 16), (2, .ofNat 0, .ofNat 16), (3, .ofNat 0, .ofNat 17)], [], [(0, .inl 32), (1, .inr (false, (1, .ofNat 0))), (2, .inr (false, (2, .ofNat 0)))], [], [(32, (0, .ofNat 10), .inr (false, (3, .ofNat 0)))], [], []), [(21, 0), (22, 0), (25, 0), (26, 0), (32, 11), (32, 12), (34000037, 0)], [
  (5, [(4, .negSucc 2147483647, .ofNat 2147483647)], [], [], [.inr (false, (0, .ofNat 1))], [(32, (0, .ofNat 10), .inr (false, (3, .ofNat 0))), (32, (0, .ofNat 11), .inr (false, (4, .ofNat 0)))], [], []), 
  (7, [(3, .ofNat 1, .ofNat 17), (4, .ofNat 0, .ofNat 1), (5, .ofNat 0, .ofNat 17), (6, .negSucc 2147483647, .ofNat 2147483647)], [(5, 3, .ofNat 0)], [], [.inr (false, (4, .ofNat 0))], [(32, (0, .ofNat 10), .inr (false, (5, .ofNat 0))), (32, (0, .ofNat 11), .inr (false, (6, .ofNat 0)))], [], [])], [], 0, 0)
def cu350 : List sxCu := [
  (38, (6, [(1, .ofNat 0, .ofNat 16), (2, .ofNat 0, .ofNat 16), (3, .ofNat 0, .ofNat 17), (4, .negSucc 2147483647, .ofNat 2147483647), (5, .negSucc 2147483647, .ofNat 2147483647)], [], [(0, .inl 32), (1, .inr (false, (1, .ofNat 0))), (2, .inr (false, (2, .ofNat 0))), (3, .inr (false, (4, .ofNat 0))), (4, .inr (false, (3, .ofNat 0))), (5, .inr (false, (0, .ofNat 0))), (6, .inr (false, (0, .ofNat 1))), (7, .inr (false, (0, .ofNat 0)))], [], [(32, (0, .ofNat 10), .inr (false, (3, .ofNat 0))), (32, (0, .ofNat 11), .inr (false, (5, .ofNat 0)))], [], []), ((0, 0, .ofNat 17), (0, 0, .ofNat 0), (0, 0, .ofNat 0)), 0, 0), 
  (38, (5, [(1, .ofNat 0, .ofNat 16), (2, .ofNat 0, .ofNat 16), (3, .ofNat 0, .ofNat 17), (4, .negSucc 2147483647, .ofNat 2147483647)], [], [(0, .inl 32), (1, .inr (false, (1, .ofNat 0))), (2, .inr (false, (2, .ofNat 0))), (3, .inr (false, (0, .ofNat 0))), (4, .inr (false, (0, .ofNat 0))), (5, .inr (false, (0, .ofNat 0))), (6, .inr (false, (0, .ofNat 1))), (7, .inr (false, (0, .ofNat 0)))], [], [(32, (0, .ofNat 10), .inr (false, (3, .ofNat 0))), (32, (0, .ofNat 11), .inr (false, (4, .ofNat 0)))], [], []), ((0, 0, .ofNat 17), (0, 0, .ofNat 0), (0, 0, .ofNat 0)), 0, 0), 
  (38, (11, [(1, .ofNat 0, .ofNat 16), (2, .ofNat 0, .ofNat 16), (3, .ofNat 1, .ofNat 17), (4, .negSucc 2147483647, .ofNat 2147483647), (5, .ofNat 0, .ofNat 1), (6, .ofNat 0, .ofNat 1), (7, .ofNat 0, .ofNat 16), (8, .negSucc 0, .ofNat 2147480647), (9, .ofNat 0, .ofNat 17), (10, .negSucc 2147483647, .ofNat 2147483647)], [(3, 9, .ofNat 1), (9, 3, .ofNat 0)], [(0, .inl 32), (1, .inr (false, (1, .ofNat 0))), (2, .inr (false, (2, .ofNat 0))), (3, .inr (false, (4, .ofNat 0))), (4, .inr (false, (3, .ofNat 0))), (5, .inr (false, (5, .ofNat 0))), (6, .inr (false, (6, .ofNat 0))), (7, .inr (false, (0, .ofNat 1))), (8, .inr (false, (7, .ofNat 0))), (9, .inr (false, (8, .ofNat 0)))], [], [(32, (0, .ofNat 9), .inl 37), (32, (0, .ofNat 10), .inr (false, (9, .ofNat 0))), (32, (0, .ofNat 11), .inr (false, (10, .ofNat 0))), (37, (0, .ofNat 0), .inr (false, (7, .ofNat 0)))], [], []), ((0, 0, .ofNat 16), (0, 0, .ofNat 0), (0, 0, .ofNat 0)), 0, 0), 
  (38, (11, [(1, .ofNat 0, .ofNat 16), (2, .ofNat 0, .ofNat 16), (3, .ofNat 10, .ofNat 17), (4, .negSucc 2147483647, .ofNat 2147483647), (5, .ofNat 0, .ofNat 10), (6, .ofNat 0, .ofNat 1), (7, .ofNat 0, .ofNat 16), (8, .negSucc 0, .ofNat 2147480647), (9, .ofNat 0, .ofNat 17), (10, .negSucc 2147483647, .ofNat 2147483647)], [(3, 9, .ofNat 10), (9, 3, .ofNat 0)], [(0, .inl 32), (1, .inr (false, (1, .ofNat 0))), (2, .inr (false, (2, .ofNat 0))), (3, .inr (false, (4, .ofNat 0))), (4, .inr (false, (3, .ofNat 0))), (5, .inr (false, (5, .ofNat 0))), (6, .inr (false, (6, .ofNat 0))), (7, .inr (false, (0, .ofNat 10))), (8, .inr (false, (7, .ofNat 0))), (9, .inr (false, (8, .ofNat 0)))], [], [(32, (0, .ofNat 9), .inl 37), (32, (0, .ofNat 10), .inr (false, (9, .ofNat 0))), (32, (0, .ofNat 11), .inr (false, (10, .ofNat 0)))], [], []), ((0, 0, .ofNat 7), (0, 0, .ofNat 0), (0, 0, .ofNat 0)), 0, 0), 
  (38, (11, [(1, .ofNat 0, .ofNat 16), (2, .ofNat 0, .ofNat 16), (3, .ofNat 11, .ofNat 17), (4, .negSucc 2147483647, .ofNat 2147483647), (5, .ofNat 0, .ofNat 11), (6, .ofNat 0, .ofNat 1), (7, .ofNat 0, .ofNat 16), (8, .negSucc 0, .ofNat 2147480647), (9, .ofNat 0, .ofNat 17), (10, .negSucc 2147483647, .ofNat 2147483647)], [(3, 9, .ofNat 11), (9, 3, .ofNat 0)], [(0, .inl 32), (1, .inr (false, (1, .ofNat 0))), (2, .inr (false, (2, .ofNat 0))), (3, .inr (false, (4, .ofNat 0))), (4, .inr (false, (3, .ofNat 0))), (5, .inr (false, (5, .ofNat 0))), (6, .inr (false, (6, .ofNat 0))), (7, .inr (false, (0, .ofNat 11))), (8, .inr (false, (7, .ofNat 0))), (9, .inr (false, (8, .ofNat 0)))], [], [(32, (0, .ofNat 9), .inl 37), (32, (0, .ofNat 10), .inr (false, (9, .ofNat 0))), (32, (0, .ofNat 11), .inr (false, (10, .ofNat 0)))], [], []), ((0, 0, .ofNat 6), (0, 0, .ofNat 0), (0, 0, .ofNat 0)), 0, 0), 
  (38, (11, [(1, .ofNat 0, .ofNat 16), (2, .ofNat 0, .ofNat 16), (3, .ofNat 12, .ofNat 17), (4, .negSucc 2147483647, .ofNat 2147483647), (5, .ofNat 0, .ofNat 12), (6, .ofNat 0, .ofNat 1), (7, .ofNat 0, .ofNat 16), (8, .negSucc 0, .ofNat 2147480647), (9, .ofNat 0, .ofNat 17), (10, .negSucc 2147483647, .ofNat 2147483647)], [(3, 9, .ofNat 12), (9, 3, .ofNat 0)], [(0, .inl 32), (1, .inr (false, (1, .ofNat 0))), (2, .inr (false, (2, .ofNat 0))), (3, .inr (false, (4, .ofNat 0))), (4, .inr (false, (3, .ofNat 0))), (5, .inr (false, (5, .ofNat 0))), (6, .inr (false, (6, .ofNat 0))), (7, .inr (false, (0, .ofNat 12))), (8, .inr (false, (7, .ofNat 0))), (9, .inr (false, (8, .ofNat 0)))], [], [(32, (0, .ofNat 9), .inl 37), (32, (0, .ofNat 10), .inr (false, (9, .ofNat 0))), (32, (0, .ofNat 11), .inr (false, (10, .ofNat 0)))], [], []), ((0, 0, .ofNat 5), (0, 0, .ofNat 0), (0, 0, .ofNat 0)), 0, 0), 
  (38, (11, [(1, .ofNat 0, .ofNat 16), (2, .ofNat 0, .ofNat 16), (3, .ofNat 13, .ofNat 17), (4, .negSucc 2147483647, .ofNat 2147483647), (5, .ofNat 0, .ofNat 13), (6, .ofNat 0, .ofNat 1), (7, .ofNat 0, .ofNat 16), (8, .negSucc 0, .ofNat 2147480647), (9, .ofNat 0, .ofNat 17), (10, .negSucc 2147483647, .ofNat 2147483647)], [(3, 9, .ofNat 13), (9, 3, .ofNat 0)], [(0, .inl 32), (1, .inr (false, (1, .ofNat 0))), (2, .inr (false, (2, .ofNat 0))), (3, .inr (false, (4, .ofNat 0))), (4, .inr (false, (3, .ofNat 0))), (5, .inr (false, (5, .ofNat 0))), (6, .inr (false, (6, .ofNat 0))), (7, .inr (false, (0, .ofNat 13))), (8, .inr (false, (7, .ofNat 0))), (9, .inr (false, (8, .ofNat 0)))], [], [(32, (0, .ofNat 9), .inl 37), (32, (0, .ofNat 10), .inr (false, (9, .ofNat 0))), (32, (0, .ofNat 11), .inr (false, (10, .ofNat 0)))], [], []), ((0, 0, .ofNat 4), (0, 0, .ofNat 0), (0, 0, .ofNat 0)), 0, 0), 
  (38, (11, [(1, .ofNat 0, .ofNat 16), (2, .ofNat 0, .ofNat 16), (3, .ofNat 14, .ofNat 17), (4, .negSucc 2147483647, .ofNat 2147483647), (5, .ofNat 0, .ofNat 14), (6, .ofNat 0, .ofNat 1), (7, .ofNat 0, .ofNat 16), (8, .negSucc 0, .ofNat 2147480647), (9, .ofNat 0, .ofNat 17), (10, .negSucc 2147483647, .ofNat 2147483647)], [(3, 9, .ofNat 14), (9, 3, .ofNat 0)], [(0, .inl 32), (1, .inr (false, (1, .ofNat 0))), (2, .inr (false, (2, .ofNat 0))), (3, .inr (false, (4, .ofNat 0))), (4, .inr (false, (3, .ofNat 0))), (5, .inr (false, (5, .ofNat 0))), (6, .inr (false, (6, .ofNat 0))), (7, .inr (false, (0, .ofNat 14))), (8, .inr (false, (7, .ofNat 0))), (9, .inr (false, (8, .ofNat 0)))], [], [(32, (0, .ofNat 9), .inl 37), (32, (0, .ofNat 10), .inr (false, (9, .ofNat 0))), (32, (0, .ofNat 11), .inr (false, (10, .ofNat 0)))], [], []), ((0, 0, .ofNat 3), (0, 0, .ofNat 0), (0, 0, .ofNat 0)), 0, 0), 
  (38, (11, [(1, .ofNat 0, .ofNat 16), (2, .ofNat 0, .ofNat 16), (3, .ofNat 15, .ofNat 17), (4, .negSucc 2147483647, .ofNat 2147483647), (5, .ofNat 0, .ofNat 15), (6, .ofNat 0, .ofNat 1), (7, .ofNat 0, .ofNat 16), (8, .negSucc 0, .ofNat 2147480647), (9, .ofNat 0, .ofNat 17), (10, .negSucc 2147483647, .ofNat 2147483647)], [(3, 9, .ofNat 15), (9, 3, .ofNat 0)], [(0, .inl 32), (1, .inr (false, (1, .ofNat 0))), (2, .inr (false, (2, .ofNat 0))), (3, .inr (false, (4, .ofNat 0))), (4, .inr (false, (3, .ofNat 0))), (5, .inr (false, (5, .ofNat 0))), (6, .inr (false, (6, .ofNat 0))), (7, .inr (false, (0, .ofNat 15))), (8, .inr (false, (7, .ofNat 0))), (9, .inr (false, (8, .ofNat 0)))], [], [(32, (0, .ofNat 9), .inl 37), (32, (0, .ofNat 10), .inr (false, (9, .ofNat 0))), (32, (0, .ofNat 11), .inr (false, (10, .ofNat 0)))], [], []), ((0, 0, .ofNat 2), (0, 0, .ofNat 0), (0, 0, .ofNat 0)), 0, 0), 
  (38, (11, [(1, .ofNat 0, .ofNat 16), (2, .ofNat 0, .ofNat 16), (3, .ofNat 16, .ofNat 17), (4, .negSucc 2147483647, .ofNat 2147483647), (5, .ofNat 0, .ofNat 16), (6, .ofNat 0, .ofNat 1), (7, .ofNat 0, .ofNat 16), (8, .negSucc 0, .ofNat 2147480647), (9, .ofNat 0, .ofNat 17), (10, .negSucc 2147483647, .ofNat 2147483647)], [(3, 9, .ofNat 16), (9, 3, .ofNat 0)], [(0, .inl 32), (1, .inr (false, (1, .ofNat 0))), (2, .inr (false, (2, .ofNat 0))), (3, .inr (false, (4, .ofNat 0))), (4, .inr (false, (3, .ofNat 0))), (5, .inr (false, (5, .ofNat 0))), (6, .inr (false, (6, .ofNat 0))), (7, .inr (false, (0, .ofNat 16))), (8, .inr (false, (7, .ofNat 0))), (9, .inr (false, (8, .ofNat 0)))], [], [(32, (0, .ofNat 9), .inl 37), (32, (0, .ofNat 10), .inr (false, (9, .ofNat 0))), (32, (0, .ofNat 11), .inr (false, (10, .ofNat 0)))], [], []), ((0, 0, .ofNat 1), (0, 0, .ofNat 0), (0, 0, .ofNat 0)), 0, 0), 
  (38, (11, [(1, .ofNat 0, .ofNat 16), (2, .ofNat 0, .ofNat 16), (3, .ofNat 17, .ofNat 17), (4, .negSucc 2147483647, .ofNat 2147483647), (5, .ofNat 0, .ofNat 17), (6, .ofNat 0, .ofNat 1), (7, .ofNat 0, .ofNat 16), (8, .negSucc 0, .ofNat 2147480647), (9, .ofNat 0, .ofNat 17), (10, .negSucc 2147483647, .ofNat 2147483647)], [], [(0, .inl 32), (1, .inr (false, (1, .ofNat 0))), (2, .inr (false, (2, .ofNat 0))), (3, .inr (false, (4, .ofNat 0))), (4, .inr (false, (3, .ofNat 0))), (5, .inr (false, (5, .ofNat 0))), (6, .inr (false, (6, .ofNat 0))), (7, .inr (false, (0, .ofNat 17))), (8, .inr (false, (7, .ofNat 0))), (9, .inr (false, (8, .ofNat 0)))], [], [(32, (0, .ofNat 9), .inl 37), (32, (0, .ofNat 10), .inr (false, (9, .ofNat 0))), (32, (0, .ofNat 11), .inr (false, (10, .ofNat 0)))], [], []), ((0, 0, .ofNat 0), (0, 0, .ofNat 0), (0, 0, .ofNat 0)), 0, 0), 
  (38, (11, [(1, .ofNat 0, .ofNat 16), (2, .ofNat 0, .ofNat 16), (3, .ofNat 2, .ofNat 17), (4, .negSucc 2147483647, .ofNat 2147483647), (5, .ofNat 0, .ofNat 2), (6, .ofNat 0, .ofNat 1), (7, .ofNat 0, .ofNat 16), (8, .negSucc 0, .ofNat 2147480647), (9, .ofNat 0, .ofNat 17), (10, .negSucc 2147483647, .ofNat 2147483647)], [(3, 9, .ofNat 2), (9, 3, .ofNat 0)], [(0, .inl 32), (1, .inr (false, (1, .ofNat 0))), (2, .inr (false, (2, .ofNat 0))), (3, .inr (false, (4, .ofNat 0))), (4, .inr (false, (3, .ofNat 0))), (5, .inr (false, (5, .ofNat 0))), (6, .inr (false, (6, .ofNat 0))), (7, .inr (false, (0, .ofNat 2))), (8, .inr (false, (7, .ofNat 0))), (9, .inr (false, (8, .ofNat 0)))], [], [(32, (0, .ofNat 9), .inl 37), (32, (0, .ofNat 10), .inr (false, (9, .ofNat 0))), (32, (0, .ofNat 11), .inr (false, (10, .ofNat 0)))], [], []), ((0, 0, .ofNat 15), (0, 0, .ofNat 0), (0, 0, .ofNat 0)), 0, 0), 
  (38, (11, [(1, .ofNat 0, .ofNat 16), (2, .ofNat 0, .ofNat 16), (3, .ofNat 3, .ofNat 17), (4, .negSucc 2147483647, .ofNat 2147483647), (5, .ofNat 0, .ofNat 3), (6, .ofNat 0, .ofNat 1), (7, .ofNat 0, .ofNat 16), (8, .negSucc 0, .ofNat 2147480647), (9, .ofNat 0, .ofNat 17), (10, .negSucc 2147483647, .ofNat 2147483647)], [(3, 9, .ofNat 3), (9, 3, .ofNat 0)], [(0, .inl 32), (1, .inr (false, (1, .ofNat 0))), (2, .inr (false, (2, .ofNat 0))), (3, .inr (false, (4, .ofNat 0))), (4, .inr (false, (3, .ofNat 0))), (5, .inr (false, (5, .ofNat 0))), (6, .inr (false, (6, .ofNat 0))), (7, .inr (false, (0, .ofNat 3))), (8, .inr (false, (7, .ofNat 0))), (9, .inr (false, (8, .ofNat 0)))], [], [(32, (0, .ofNat 9), .inl 37), (32, (0, .ofNat 10), .inr (false, (9, .ofNat 0))), (32, (0, .ofNat 11), .inr (false, (10, .ofNat 0)))], [], []), ((0, 0, .ofNat 14), (0, 0, .ofNat 0), (0, 0, .ofNat 0)), 0, 0), 
  (38, (11, [(1, .ofNat 0, .ofNat 16), (2, .ofNat 0, .ofNat 16), (3, .ofNat 4, .ofNat 17), (4, .negSucc 2147483647, .ofNat 2147483647), (5, .ofNat 0, .ofNat 4), (6, .ofNat 0, .ofNat 1), (7, .ofNat 0, .ofNat 16), (8, .negSucc 0, .ofNat 2147480647), (9, .ofNat 0, .ofNat 17), (10, .negSucc 2147483647, .ofNat 2147483647)], [(3, 9, .ofNat 4), (9, 3, .ofNat 0)], [(0, .inl 32), (1, .inr (false, (1, .ofNat 0))), (2, .inr (false, (2, .ofNat 0))), (3, .inr (false, (4, .ofNat 0))), (4, .inr (false, (3, .ofNat 0))), (5, .inr (false, (5, .ofNat 0))), (6, .inr (false, (6, .ofNat 0))), (7, .inr (false, (0, .ofNat 4))), (8, .inr (false, (7, .ofNat 0))), (9, .inr (false, (8, .ofNat 0)))], [], [(32, (0, .ofNat 9), .inl 37), (32, (0, .ofNat 10), .inr (false, (9, .ofNat 0))), (32, (0, .ofNat 11), .inr (false, (10, .ofNat 0)))], [], []), ((0, 0, .ofNat 13), (0, 0, .ofNat 0), (0, 0, .ofNat 0)), 0, 0), 
  (38, (11, [(1, .ofNat 0, .ofNat 16), (2, .ofNat 0, .ofNat 16), (3, .ofNat 5, .ofNat 17), (4, .negSucc 2147483647, .ofNat 2147483647), (5, .ofNat 0, .ofNat 5), (6, .ofNat 0, .ofNat 1), (7, .ofNat 0, .ofNat 16), (8, .negSucc 0, .ofNat 2147480647), (9, .ofNat 0, .ofNat 17), (10, .negSucc 2147483647, .ofNat 2147483647)], [(3, 9, .ofNat 5), (9, 3, .ofNat 0)], [(0, .inl 32), (1, .inr (false, (1, .ofNat 0))), (2, .inr (false, (2, .ofNat 0))), (3, .inr (false, (4, .ofNat 0))), (4, .inr (false, (3, .ofNat 0))), (5, .inr (false, (5, .ofNat 0))), (6, .inr (false, (6, .ofNat 0))), (7, .inr (false, (0, .ofNat 5))), (8, .inr (false, (7, .ofNat 0))), (9, .inr (false, (8, .ofNat 0)))], [], [(32, (0, .ofNat 9), .inl 37), (32, (0, .ofNat 10), .inr (false, (9, .ofNat 0))), (32, (0, .ofNat 11), .inr (false, (10, .ofNat 0)))], [], []), ((0, 0, .ofNat 12), (0, 0, .ofNat 0), (0, 0, .ofNat 0)), 0, 0), 
  (38, (11, [(1, .ofNat 0, .ofNat 16), (2, .ofNat 0, .ofNat 16), (3, .ofNat 6, .ofNat 17), (4, .negSucc 2147483647, .ofNat 2147483647), (5, .ofNat 0, .ofNat 6), (6, .ofNat 0, .ofNat 1), (7, .ofNat 0, .ofNat 16), (8, .negSucc 0, .ofNat 2147480647), (9, .ofNat 0, .ofNat 17), (10, .negSucc 2147483647, .ofNat 2147483647)], [(3, 9, .ofNat 6), (9, 3, .ofNat 0)], [(0, .inl 32), (1, .inr (false, (1, .ofNat 0))), (2, .inr (false, (2, .ofNat 0))), (3, .inr (false, (4, .ofNat 0))), (4, .inr (false, (3, .ofNat 0))), (5, .inr (false, (5, .ofNat 0))), (6, .inr (false, (6, .ofNat 0))), (7, .inr (false, (0, .ofNat 6))), (8, .inr (false, (7, .ofNat 0))), (9, .inr (false, (8, .ofNat 0)))], [], [(32, (0, .ofNat 9), .inl 37), (32, (0, .ofNat 10), .inr (false, (9, .ofNat 0))), (32, (0, .ofNat 11), .inr (false, (10, .ofNat 0)))], [], []), ((0, 0, .ofNat 11), (0, 0, .ofNat 0), (0, 0, .ofNat 0)), 0, 0), 
  (38, (11, [(1, .ofNat 0, .ofNat 16), (2, .ofNat 0, .ofNat 16), (3, .ofNat 7, .ofNat 17), (4, .negSucc 2147483647, .ofNat 2147483647), (5, .ofNat 0, .ofNat 7), (6, .ofNat 0, .ofNat 1), (7, .ofNat 0, .ofNat 16), (8, .negSucc 0, .ofNat 2147480647), (9, .ofNat 0, .ofNat 17), (10, .negSucc 2147483647, .ofNat 2147483647)], [(3, 9, .ofNat 7), (9, 3, .ofNat 0)], [(0, .inl 32), (1, .inr (false, (1, .ofNat 0))), (2, .inr (false, (2, .ofNat 0))), (3, .inr (false, (4, .ofNat 0))), (4, .inr (false, (3, .ofNat 0))), (5, .inr (false, (5, .ofNat 0))), (6, .inr (false, (6, .ofNat 0))), (7, .inr (false, (0, .ofNat 7))), (8, .inr (false, (7, .ofNat 0))), (9, .inr (false, (8, .ofNat 0)))], [], [(32, (0, .ofNat 9), .inl 37), (32, (0, .ofNat 10), .inr (false, (9, .ofNat 0))), (32, (0, .ofNat 11), .inr (false, (10, .ofNat 0)))], [], []), ((0, 0, .ofNat 10), (0, 0, .ofNat 0), (0, 0, .ofNat 0)), 0, 0), 
  (38, (11, [(1, .ofNat 0, .ofNat 16), (2, .ofNat 0, .ofNat 16), (3, .ofNat 8, .ofNat 17), (4, .negSucc 2147483647, .ofNat 2147483647), (5, .ofNat 0, .ofNat 8), (6, .ofNat 0, .ofNat 1), (7, .ofNat 0, .ofNat 16), (8, .negSucc 0, .ofNat 2147480647), (9, .ofNat 0, .ofNat 17), (10, .negSucc 2147483647, .ofNat 2147483647)], [(3, 9, .ofNat 8), (9, 3, .ofNat 0)], [(0, .inl 32), (1, .inr (false, (1, .ofNat 0))), (2, .inr (false, (2, .ofNat 0))), (3, .inr (false, (4, .ofNat 0))), (4, .inr (false, (3, .ofNat 0))), (5, .inr (false, (5, .ofNat 0))), (6, .inr (false, (6, .ofNat 0))), (7, .inr (false, (0, .ofNat 8))), (8, .inr (false, (7, .ofNat 0))), (9, .inr (false, (8, .ofNat 0)))], [], [(32, (0, .ofNat 9), .inl 37), (32, (0, .ofNat 10), .inr (false, (9, .ofNat 0))), (32, (0, .ofNat 11), .inr (false, (10, .ofNat 0)))], [], []), ((0, 0, .ofNat 9), (0, 0, .ofNat 0), (0, 0, .ofNat 0)), 0, 0), 
  (38, (11, [(1, .ofNat 0, .ofNat 16), (2, .ofNat 0, .ofNat 16), (3, .ofNat 9, .ofNat 17), (4, .negSucc 2147483647, .ofNat 2147483647), (5, .ofNat 0, .ofNat 9), (6, .ofNat 0, .ofNat 1), (7, .ofNat 0, .ofNat 16), (8, .negSucc 0, .ofNat 2147480647), (9, .ofNat 0, .ofNat 17), (10, .negSucc 2147483647, .ofNat 2147483647)], [(3, 9, .ofNat 9), (9, 3, .ofNat 0)], [(0, .inl 32), (1, .inr (false, (1, .ofNat 0))), (2, .inr (false, (2, .ofNat 0))), (3, .inr (false, (4, .ofNat 0))), (4, .inr (false, (3, .ofNat 0))), (5, .inr (false, (5, .ofNat 0))), (6, .inr (false, (6, .ofNat 0))), (7, .inr (false, (0, .ofNat 9))), (8, .inr (false, (7, .ofNat 0))), (9, .inr (false, (8, .ofNat 0)))], [], [(32, (0, .ofNat 9), .inl 37), (32, (0, .ofNat 10), .inr (false, (9, .ofNat 0))), (32, (0, .ofNat 11), .inr (false, (10, .ofNat 0)))], [], []), ((0, 0, .ofNat 8), (0, 0, .ofNat 0), (0, 0, .ofNat 0)), 0, 0)]
set_option maxRecDepth 1000000 in
theorem cv350 {gh : sxGh} (hg : sxGd sxKw gh) : sxCtV sxKw gh ct350 := sxMeB_ok (cts := [ct349]) (cuts := cu350) (sp := []) 3965 (by decide +kernel) hg (by decide) (by decide) (List.forall_mem_cons.mpr ⟨cv349 hg, (fun _ h => absurd h List.not_mem_nil)⟩)
/-- LotBeliefs.Course.bury -/
def ct351 : sxCt := (5, 1, (2, [(1, .ofNat 0, .ofNat 51)], [], [(0, .inl 32), (1, .inr (false, (1, .ofNat 0)))], [], [], [], []), [(32, 11), (32, 12), (34, 0), (36, 0), (37, 0)], [
  (3, [(2, .negSucc 2147483647, .ofNat 2147483647)], [], [], [], [(32, (0, .ofNat 11), .inr (false, (2, .ofNat 0)))], [], [])], [], 0, 0)
def cu351 : List sxCu := [
  (22, (5, [(1, .ofNat 0, .ofNat 51), (2, .ofNat 0, .ofNat 17), (3, .ofNat 0, .ofNat 17), (4, .negSucc 2147483647, .ofNat 2147483647)], [(2, 3, .ofNat 0)], [(0, .inl 32), (1, .inr (false, (1, .ofNat 0))), (2, .inr (false, (2, .ofNat 0))), (3, .inr (false, (3, .ofNat 0)))], [], [(32, (0, .ofNat 11), .inr (false, (4, .ofNat 0)))], [], []), ((0, 3, .ofNat 17), (0, 0, .ofNat 0), (0, 0, .ofNat 0)), 0, 0)]
set_option maxRecDepth 1000000 in
theorem cv351 {gh : sxGh} (hg : sxGd sxKw gh) : sxCtV sxKw gh ct351 := sxMeB_ok (cts := [ct333, ct334]) (cuts := cu351) (sp := []) 185 (by decide +kernel) hg (by decide) (by decide) (List.forall_mem_cons.mpr ⟨cv333 hg, (List.forall_mem_cons.mpr ⟨cv334 hg, (fun _ h => absurd h List.not_mem_nil)⟩)⟩)
/-- LotBeliefs.Course.bury -/
def ct360 : sxCt := (5, 1, (2, [(1, .ofNat 0, .ofNat 6)], [], [(0, .inl 32), (1, .inr (false, (1, .ofNat 0)))], [], [], [], []), [(32, 11), (32, 12), (34, 0), (36, 0), (37, 0)], [
  (3, [(2, .negSucc 2147483647, .ofNat 2147483647)], [], [], [], [(32, (0, .ofNat 11), .inr (false, (2, .ofNat 0)))], [], [])], [], 0, 0)
def cu360 : List sxCu := [
  (22, (5, [(1, .ofNat 0, .ofNat 6), (2, .ofNat 0, .ofNat 17), (3, .ofNat 0, .ofNat 17), (4, .negSucc 2147483647, .ofNat 2147483647)], [(2, 3, .ofNat 0)], [(0, .inl 32), (1, .inr (false, (1, .ofNat 0))), (2, .inr (false, (2, .ofNat 0))), (3, .inr (false, (3, .ofNat 0)))], [], [(32, (0, .ofNat 11), .inr (false, (4, .ofNat 0)))], [], []), ((0, 3, .ofNat 17), (0, 0, .ofNat 0), (0, 0, .ofNat 0)), 0, 0)]
set_option maxRecDepth 1000000 in
theorem cv360 {gh : sxGh} (hg : sxGd sxKw gh) : sxCtV sxKw gh ct360 := sxMeB_ok (cts := [ct333, ct334]) (cuts := cu360) (sp := []) 185 (by decide +kernel) hg (by decide) (by decide) (List.forall_mem_cons.mpr ⟨cv333 hg, (List.forall_mem_cons.mpr ⟨cv334 hg, (fun _ h => absurd h List.not_mem_nil)⟩)⟩)
/-- LotBeliefs.Course.bury -/
def ct368 : sxCt := (5, 1, (2, [(1, .ofNat 0, .ofNat 11)], [], [(0, .inl 32), (1, .inr (false, (1, .ofNat 0)))], [], [], [], []), [(32, 11), (32, 12), (34, 0), (36, 0), (37, 0)], [
  (3, [(2, .negSucc 2147483647, .ofNat 2147483647)], [], [], [], [(32, (0, .ofNat 11), .inr (false, (2, .ofNat 0)))], [], [])], [], 0, 0)
def cu368 : List sxCu := [
  (22, (5, [(1, .ofNat 0, .ofNat 11), (2, .ofNat 0, .ofNat 17), (3, .ofNat 0, .ofNat 17), (4, .negSucc 2147483647, .ofNat 2147483647)], [(2, 3, .ofNat 0)], [(0, .inl 32), (1, .inr (false, (1, .ofNat 0))), (2, .inr (false, (2, .ofNat 0))), (3, .inr (false, (3, .ofNat 0)))], [], [(32, (0, .ofNat 11), .inr (false, (4, .ofNat 0)))], [], []), ((0, 3, .ofNat 17), (0, 0, .ofNat 0), (0, 0, .ofNat 0)), 0, 0)]
set_option maxRecDepth 1000000 in
theorem cv368 {gh : sxGh} (hg : sxGd sxKw gh) : sxCtV sxKw gh ct368 := sxMeB_ok (cts := [ct333, ct334]) (cuts := cu368) (sp := []) 185 (by decide +kernel) hg (by decide) (by decide) (List.forall_mem_cons.mpr ⟨cv333 hg, (List.forall_mem_cons.mpr ⟨cv334 hg, (fun _ h => absurd h List.not_mem_nil)⟩)⟩)
/-- LotBeliefs.Course.lives -/
def ct369 : sxCt := (6, 0, (3, [(1, .ofNat 0, .ofNat 16), (2, .ofNat 0, .ofNat 11)], [], [(0, .inl 32), (1, .inr (false, (1, .ofNat 0))), (2, .inr (false, (2, .ofNat 0)))], [], [], [], []), [(33000036, 0)], [
  (3, [], [], [], [.inr (false, (0, .ofNat 0))], [], [], []), 
  (3, [], [], [], [.inr (false, (0, .ofNat 1))], [], [], [])], [], 0, 0)
def cu369 : List sxCu := []
set_option maxRecDepth 1000000 in
theorem cv369 {gh : sxGh} (hg : sxGd sxKw gh) : sxCtV sxKw gh ct369 := sxMeB_ok (cts := []) (cuts := cu369) (sp := []) 196 (by decide +kernel) hg (by decide) (by decide) (fun _ h => absurd h List.not_mem_nil)
/-- LotBeliefs.Course.play -/
def ct370 : sxCt := (2, 4, (3, [(1, .ofNat 0, .ofNat 12), (2, .ofNat 0, .ofNat 1)], [], [(0, .inl 32), (1, .inl 28), (2, .inr (false, (1, .ofNat 0))), (3, .inr (false, (2, .ofNat 0)))], [], [], [], []), [(21, 0), (22, 0), (25, 0), (26, 0), (32, 9), (32, 11), (32, 12), (33000037, 0)], [
  (5, [(3, .ofNat 0, .ofNat 4095), (4, .negSucc 2147483647, .ofNat 2147483647)], [], [], [], [(32, (0, .ofNat 8), .inr (false, (3, .ofNat 0))), (32, (0, .ofNat 11), .inr (false, (4, .ofNat 0)))], [], [])], [], 0, 0)
def cu370 : List sxCu := [
  (9, (4, [(1, .ofNat 0, .ofNat 12), (2, .ofNat 0, .ofNat 1), (3, .ofNat 0, .ofNat 12)], [(2, 3, .ofNat 0), (3, 1, .ofNat 1)], [(0, .inl 32), (1, .inl 28), (2, .inr (false, (1, .ofNat 0))), (3, .inr (false, (2, .ofNat 0))), (4, .inr (false, (3, .ofNat 0)))], [], [], [], []), ((0, 3, .ofNat 12), (0, 0, .ofNat 0), (0, 0, .ofNat 0)), 0, 0)]
set_option maxRecDepth 1000000 in
theorem cv370 {gh : sxGh} (hg : sxGd sxKw gh) : sxCtV sxKw gh ct370 := sxMeB_ok (cts := [ct332, ct331, ct368, ct351, ct369, ct350]) (cuts := cu370) (sp := []) 132 (by decide +kernel) hg (by decide) (by decide) (List.forall_mem_cons.mpr ⟨cv332 hg, (List.forall_mem_cons.mpr ⟨cv331 hg, (List.forall_mem_cons.mpr ⟨cv368 hg, (List.forall_mem_cons.mpr ⟨cv351 hg, (List.forall_mem_cons.mpr ⟨cv369 hg, (List.forall_mem_cons.mpr ⟨cv350 hg, (fun _ h => absurd h List.not_mem_nil)⟩)⟩)⟩)⟩)⟩)⟩)
/-- LotBeliefs.Course.seatedBehind -/
def ct371 : sxCt := (14, 0, (2, [(1, .ofNat 0, .ofNat 51)], [], [(0, .inl 32), (1, .inr (false, (1, .ofNat 0)))], [], [], [], []), [], [
  (3, [(2, .ofNat 0, .ofNat 4095)], [], [], [.inr (false, (2, .ofNat 0))], [], [], [])], [], 0, 0)
def cu371 : List sxCu := [
  (4, (4, [(1, .ofNat 0, .ofNat 51), (2, .ofNat 0, .ofNat 4095), (3, .ofNat 0, .ofNat 12)], [], [(0, .inl 32), (1, .inr (false, (1, .ofNat 0))), (2, .inr (false, (2, .ofNat 0))), (3, .inr (false, (3, .ofNat 0)))], [], [], [], []), ((0, 3, .ofNat 12), (0, 0, .ofNat 0), (0, 0, .ofNat 0)), 0, 0)]
set_option maxRecDepth 1000000 in
theorem cv371 {gh : sxGh} (hg : sxGd sxKw gh) : sxCtV sxKw gh ct371 := sxMeB_ok (cts := []) (cuts := cu371) (sp := []) 139 (by decide +kernel) hg (by decide) (by decide) (fun _ h => absurd h List.not_mem_nil)
/-- LotBeliefsModel.rowAsOrder -/
def ct372 : sxCt := (269, 0, (1, [], [], [(0, .inl 78)], [], [], [], []), [(78, 44), (560, 0)], [
  (2, [(1, .ofNat 0, .ofNat 12)], [], [], [], [(78, (0, .ofNat 43), .inr (false, (1, .ofNat 0)))], [], [])], [], 0, 0)
def cu372 : List sxCu := [
  (12, (3, [(1, .ofNat 0, .ofNat 12), (2, .ofNat 0, .ofNat 12)], [], [(0, .inl 78), (1, .inr (false, (1, .ofNat 0)))], [], [(78, (0, .ofNat 12), .inl 82), (78, (0, .ofNat 43), .inr (false, (2, .ofNat 0))), (82, (0, .ofNat 1), .inr (false, (2, .ofNat 0)))], [], []), ((0, 1, .ofNat 12), (0, 0, .ofNat 0), (0, 0, .ofNat 0)), 0, 0)]
set_option maxRecDepth 1000000 in
theorem cv372 {gh : sxGh} (hg : sxGd sxKw gh) : sxCtV sxKw gh ct372 := sxMeB_ok (cts := []) (cuts := cu372) (sp := []) 83 (by decide +kernel) hg (by decide) (by decide) (fun _ h => absurd h List.not_mem_nil)
/-- LotBeliefsModel.begins -/
def ct373 : sxCt := (259, 0, (2, [(1, .ofNat 0, .ofNat 4)], [], [(0, .inl 78), (1, .inr (false, (1, .ofNat 0)))], [], [], [], []), [(78, 45), (78, 46), (78, 47), (78, 48), (78, 49), (562000566, 0)], [
  (2, [], [], [], [], [(78, (0, .ofNat 44), .inr (false, (0, .ofNat 0))), (78, (0, .ofNat 45), .inr (false, (0, .ofNat 0))), (78, (0, .ofNat 46), .inr (false, (0, .ofNat 0))), (78, (0, .ofNat 47), .inr (false, (0, .ofNat 0))), (78, (0, .ofNat 48), .inr (false, (1, .ofNat 0)))], [], [])], [], 0, 0)
def cu373 : List sxCu := [
  (27, (3, [(1, .ofNat 0, .ofNat 4), (2, .ofNat 0, .ofNat 17)], [], [(0, .inl 78), (1, .inr (false, (1, .ofNat 0))), (2, .inr (false, (2, .ofNat 0)))], [], [(78, (0, .ofNat 44), .inr (false, (0, .ofNat 0))), (78, (0, .ofNat 45), .inr (false, (0, .ofNat 0))), (78, (0, .ofNat 46), .inr (false, (0, .ofNat 0))), (78, (0, .ofNat 47), .inr (false, (0, .ofNat 0))), (78, (0, .ofNat 48), .inr (false, (1, .ofNat 0)))], [], []), ((0, 2, .ofNat 17), (0, 0, .ofNat 0), (0, 0, .ofNat 0)), 0, 0)]
set_option maxRecDepth 1000000 in
theorem cv373 {gh : sxGh} (hg : sxGd sxKw gh) : sxCtV sxKw gh ct373 := sxMeB_ok (cts := []) (cuts := cu373) (sp := []) 108 (by decide +kernel) hg (by decide) (by decide) (fun _ h => absurd h List.not_mem_nil)
/-- LotBeliefsModel.ages -/
def ct390 : sxCt := (266, 1, (2, [(1, .ofNat 0, .ofNat 17)], [], [(0, .inl 78)], [], [(78, (0, .ofNat 44), .inr (false, (1, .ofNat 0)))], [], []), [(78, 48), (565, 0), (566, 0)], [
  (2, [], [], [], [], [(78, (0, .ofNat 44), .inr (false, (1, .ofNat 0)))], [], [])], [], 0, 0)
def cu390 : List sxCu := [
  (2, (3, [(1, .ofNat 0, .ofNat 17), (2, .ofNat 0, .ofNat 17)], [], [(0, .inl 78), (1, .inr (false, (2, .ofNat 0)))], [], [(78, (0, .ofNat 44), .inr (false, (1, .ofNat 0)))], [], []), ((0, 2, .ofNat 17), (0, 0, .ofNat 0), (0, 0, .ofNat 0)), 0, 0)]
set_option maxRecDepth 1000000 in
theorem cv390 {gh : sxGh} (hg : sxGd sxKw gh) : sxCtV sxKw gh ct390 := sxMeB_ok (cts := []) (cuts := cu390) (sp := []) 124 (by decide +kernel) hg (by decide) (by decide) (fun _ h => absurd h List.not_mem_nil)
/-- LotBeliefsModel.heldNow -/
def ct391 : sxCt := (267, 0, (2, [(1, .ofNat 0, .ofNat 17)], [], [(0, .inl 78)], [], [(78, (0, .ofNat 44), .inr (false, (1, .ofNat 0)))], [], []), [], [
  (3, [(2, .ofNat 0, .ofNat 131071)], [], [], [.inr (false, (2, .ofNat 0))], [(78, (0, .ofNat 44), .inr (false, (1, .ofNat 0)))], [], [])], [], 0, 0)
def cu391 : List sxCu := [
  (4, (4, [(1, .ofNat 0, .ofNat 17), (2, .ofNat 0, .ofNat 131071), (3, .ofNat 0, .ofNat 17)], [], [(0, .inl 78), (1, .inr (false, (2, .ofNat 0))), (2, .inr (false, (3, .ofNat 0)))], [], [(78, (0, .ofNat 44), .inr (false, (1, .ofNat 0)))], [], []), ((0, 3, .ofNat 17), (0, 0, .ofNat 0), (0, 0, .ofNat 0)), 0, 0)]
set_option maxRecDepth 1000000 in
theorem cv391 {gh : sxGh} (hg : sxGd sxKw gh) : sxCtV sxKw gh ct391 := sxMeB_ok (cts := []) (cuts := cu391) (sp := []) 81 (by decide +kernel) hg (by decide) (by decide) (fun _ h => absurd h List.not_mem_nil)
/-- LotBeliefsModel.ages -/
def ct392 : sxCt := (266, 1, (2, [(1, .ofNat 0, .ofNat 17)], [], [(0, .inl 78)], [], [(78, (0, .ofNat 44), .inr (false, (1, .ofNat 0)))], [(561, (1, .ofNat 0), .inr (false, .ofNat 0, .ofNat 6))], []), [(78, 48), (565, 0), (566, 0)], [
  (2, [], [], [], [], [(78, (0, .ofNat 44), .inr (false, (1, .ofNat 0)))], [(561, (1, .ofNat 0), .inr (false, .ofNat 0, .ofNat 6))], [])], [], 0, 0)
def cu392 : List sxCu := [
  (2, (3, [(1, .ofNat 0, .ofNat 17), (2, .ofNat 0, .ofNat 17)], [], [(0, .inl 78), (1, .inr (false, (2, .ofNat 0)))], [], [(78, (0, .ofNat 44), .inr (false, (1, .ofNat 0)))], [(561, (1, .ofNat 0), .inr (false, .ofNat 0, .ofNat 6))], []), ((0, 2, .ofNat 17), (0, 0, .ofNat 0), (0, 0, .ofNat 0)), 0, 0)]
set_option maxRecDepth 1000000 in
theorem cv392 {gh : sxGh} (hg : sxGd sxKw gh) : sxCtV sxKw gh ct392 := sxMeB_ok (cts := []) (cuts := cu392) (sp := []) 124 (by decide +kernel) hg (by decide) (by decide) (fun _ h => absurd h List.not_mem_nil)
/-- LotBeliefsModel.heldNow -/
def ct393 : sxCt := (267, 0, (2, [(1, .ofNat 0, .ofNat 17)], [], [(0, .inl 78)], [], [(78, (0, .ofNat 44), .inr (false, (1, .ofNat 0)))], [(561, (1, .ofNat 0), .inr (false, .ofNat 0, .ofNat 6))], []), [], [
  (3, [(2, .ofNat 0, .ofNat 127)], [], [], [.inr (false, (2, .ofNat 0))], [(78, (0, .ofNat 44), .inr (false, (1, .ofNat 0)))], [(561, (1, .ofNat 0), .inr (false, .ofNat 0, .ofNat 6))], [])], [], 0, 0)
def cu393 : List sxCu := [
  (4, (4, [(1, .ofNat 0, .ofNat 17), (2, .ofNat 0, .ofNat 127), (3, .ofNat 0, .ofNat 17)], [(2, 3, .ofNat 126)], [(0, .inl 78), (1, .inr (false, (2, .ofNat 0))), (2, .inr (false, (3, .ofNat 0)))], [], [(78, (0, .ofNat 44), .inr (false, (1, .ofNat 0)))], [(561, (1, .ofNat 0), .inr (false, .ofNat 0, .ofNat 6))], []), ((0, 3, .ofNat 17), (0, 0, .ofNat 0), (0, 0, .ofNat 0)), 0, 0)]
set_option maxRecDepth 1000000 in
theorem cv393 {gh : sxGh} (hg : sxGd sxKw gh) : sxCtV sxKw gh ct393 := sxMeB_ok (cts := []) (cuts := cu393) (sp := []) 81 (by decide +kernel) hg (by decide) (by decide) (fun _ h => absurd h List.not_mem_nil)
/-- LotBeliefsModel.leaves -/
def ct434 : sxCt := (261, 0, (3, [(1, .ofNat 0, .ofNat 10), (2, .ofNat 1, .ofNat 17)], [], [(0, .inl 78), (1, .inr (false, (1, .ofNat 0)))], [], [(78, (0, .ofNat 44), .inr (false, (2, .ofNat 0)))], [], []), [(78, 45), (561, 0)], [
  (3, [], [], [], [], [(78, (0, .ofNat 44), .inr (false, (2, .negSucc 0)))], [], [])], [], 0, 0)
def cu434 : List sxCu := [
  (12, (4, [(1, .ofNat 0, .ofNat 10), (2, .ofNat 1, .ofNat 17), (3, .ofNat 0, .ofNat 16)], [(1, 3, .ofNat 0), (3, 2, .ofNat 9)], [(0, .inl 78), (1, .inr (false, (1, .ofNat 0))), (2, .inr (false, (3, .ofNat 0)))], [], [(78, (0, .ofNat 44), .inr (false, (2, .negSucc 0)))], [], []), ((0, 3, .ofNat 16), (0, 0, .ofNat 0), (0, 0, .ofNat 0)), 0, 0)]
set_option maxRecDepth 1000000 in
theorem cv434 {gh : sxGh} (hg : sxGd sxKw gh) : sxCtV sxKw gh ct434 := sxMeB_ok (cts := []) (cuts := cu434) (sp := []) 85 (by decide +kernel) hg (by decide) (by decide) (fun _ h => absurd h List.not_mem_nil)
/-- LotBeliefsModel.leaves -/
def ct445 : sxCt := (261, 0, (3, [(1, .ofNat 0, .ofNat 15), (2, .ofNat 1, .ofNat 17)], [], [(0, .inl 78), (1, .inr (false, (1, .ofNat 0)))], [], [(78, (0, .ofNat 44), .inr (false, (2, .ofNat 0)))], [], []), [(78, 45), (561, 0)], [
  (3, [], [], [], [], [(78, (0, .ofNat 44), .inr (false, (2, .negSucc 0)))], [], [])], [], 0, 0)
def cu445 : List sxCu := [
  (12, (4, [(1, .ofNat 0, .ofNat 15), (2, .ofNat 1, .ofNat 17), (3, .ofNat 0, .ofNat 16)], [(1, 3, .ofNat 0), (3, 2, .ofNat 14)], [(0, .inl 78), (1, .inr (false, (1, .ofNat 0))), (2, .inr (false, (3, .ofNat 0)))], [], [(78, (0, .ofNat 44), .inr (false, (2, .negSucc 0)))], [], []), ((0, 3, .ofNat 16), (0, 0, .ofNat 0), (0, 0, .ofNat 0)), 0, 0)]
set_option maxRecDepth 1000000 in
theorem cv445 {gh : sxGh} (hg : sxGd sxKw gh) : sxCtV sxKw gh ct445 := sxMeB_ok (cts := []) (cuts := cu445) (sp := []) 85 (by decide +kernel) hg (by decide) (by decide) (fun _ h => absurd h List.not_mem_nil)
/-- LotBeliefsModel.leaves -/
def ct454 : sxCt := (261, 0, (3, [(1, .ofNat 0, .ofNat 16), (2, .ofNat 1, .ofNat 17)], [], [(0, .inl 78), (1, .inr (false, (1, .ofNat 0)))], [], [(78, (0, .ofNat 44), .inr (false, (2, .ofNat 0)))], [], []), [(78, 45), (561, 0)], [
  (3, [], [], [], [], [(78, (0, .ofNat 44), .inr (false, (2, .negSucc 0)))], [], [])], [], 0, 0)
def cu454 : List sxCu := [
  (12, (4, [(1, .ofNat 0, .ofNat 16), (2, .ofNat 1, .ofNat 17), (3, .ofNat 0, .ofNat 16)], [(1, 3, .ofNat 0)], [(0, .inl 78), (1, .inr (false, (1, .ofNat 0))), (2, .inr (false, (3, .ofNat 0)))], [], [(78, (0, .ofNat 44), .inr (false, (2, .negSucc 0)))], [], []), ((0, 3, .ofNat 16), (0, 0, .ofNat 0), (0, 0, .ofNat 0)), 0, 0)]
set_option maxRecDepth 1000000 in
theorem cv454 {gh : sxGh} (hg : sxGd sxKw gh) : sxCtV sxKw gh ct454 := sxMeB_ok (cts := []) (cuts := cu454) (sp := []) 85 (by decide +kernel) hg (by decide) (by decide) (fun _ h => absurd h List.not_mem_nil)
/-- LotBeliefsModel.kills -/
def ct458 : sxCt := (262, 1, (3, [(1, .ofNat 0, .ofNat 51), (2, .ofNat 0, .ofNat 17)], [(2, 1, .ofNat 0)], [(0, .inl 78), (1, .inr (false, (1, .ofNat 0)))], [], [(78, (0, .ofNat 44), .inr (false, (2, .ofNat 0)))], [], []), [(78, 45), (78, 47), (561, 0), (563, 0)], [
  (4, [(3, .ofNat 0, .ofNat 17)], [(3, 1, .ofNat 0), (3, 2, .ofNat 0)], [], [], [(78, (0, .ofNat 44), .inr (false, (3, .ofNat 0)))], [], [])], [], 0, 0)
def cu458 : List sxCu := [
  (2, (5, [(1, .ofNat 0, .ofNat 51), (2, .ofNat 0, .ofNat 17), (3, .ofNat 0, .ofNat 17), (4, .ofNat 0, .ofNat 17)], [(4, 1, .ofNat 0), (4, 2, .ofNat 0), (2, 1, .ofNat 0)], [(0, .inl 78), (1, .inr (false, (1, .ofNat 0))), (2, .inr (false, (3, .ofNat 0)))], [], [(78, (0, .ofNat 44), .inr (false, (4, .ofNat 0)))], [], []), ((4, 3, .ofNat 17), (0, 0, .ofNat 0), (0, 0, .ofNat 0)), 0, 0)]
set_option maxRecDepth 1000000 in
theorem cv458 {gh : sxGh} (hg : sxGd sxKw gh) : sxCtV sxKw gh ct458 := sxMeB_ok (cts := [ct454]) (cuts := cu458) (sp := []) 121 (by decide +kernel) hg (by decide) (by decide) (List.forall_mem_cons.mpr ⟨cv454 hg, (fun _ h => absurd h List.not_mem_nil)⟩)
/-- LotBeliefs.Jar.common -/
def ct460 : sxCt := (28, 0, (3, [(1, .ofNat 0, .ofNat 4095), (2, .ofNat 0, .ofNat 51)], [], [(0, .inl 3), (1, .inr (false, (1, .ofNat 0))), (2, .inr (false, (2, .ofNat 0)))], [], [], [], []), [], [
  (4, [(3, .negSucc 9223372036854775807, .ofNat 9223372036854775807)], [], [], [.inr (true, (3, .ofNat 0))], [], [], [])], [], 0, 0)
def cu460 : List sxCu := [
  (10, (5, [(1, .ofNat 0, .ofNat 4095), (2, .ofNat 0, .ofNat 51), (3, .negSucc 9223372036854775807, .ofNat 9223372036854775807), (4, .ofNat 0, .ofNat 12)], [], [(0, .inl 3), (1, .inr (false, (1, .ofNat 0))), (2, .inr (false, (2, .ofNat 0))), (3, .inr (true, (3, .ofNat 0))), (5, .inr (false, (4, .ofNat 0)))], [], [(3, (0, .ofNat 11), .inl 8)], [], []), ((0, 4, .ofNat 12), (0, 0, .ofNat 0), (0, 0, .ofNat 0)), 0, 0)]
set_option maxRecDepth 1000000 in
theorem cv460 {gh : sxGh} (hg : sxGd sxKw gh) : sxCtV sxKw gh ct460 := sxMeB_ok (cts := []) (cuts := cu460) (sp := []) 90 (by decide +kernel) hg (by decide) (by decide) (fun _ h => absurd h List.not_mem_nil)
/-- LotBeliefsModel.togetherIn -/
def ct461 : sxCt := (274, 0, (3, [(1, .ofNat 0, .ofNat 4095), (2, .ofNat 0, .ofNat 51)], [], [(0, .inl 78), (1, .inr (false, (1, .ofNat 0))), (2, .inr (false, (2, .ofNat 0)))], [], [], [], []), [], [
  (4, [(3, .negSucc 9223372036854775807, .ofNat 9223372036854775807)], [], [], [.inr (true, (3, .ofNat 0))], [], [], [])], [], 0, 0)
def cu461 : List sxCu := [
  (10, (5, [(1, .ofNat 0, .ofNat 4095), (2, .ofNat 0, .ofNat 51), (3, .negSucc 9223372036854775807, .ofNat 9223372036854775807), (4, .ofNat 0, .ofNat 12)], [], [(0, .inl 78), (1, .inr (false, (1, .ofNat 0))), (2, .inr (false, (2, .ofNat 0))), (3, .inr (true, (3, .ofNat 0))), (5, .inr (false, (4, .ofNat 0)))], [], [(78, (0, .ofNat 19), .inl 89)], [], []), ((0, 4, .ofNat 12), (0, 0, .ofNat 0), (0, 0, .ofNat 0)), 0, 0)]
set_option maxRecDepth 1000000 in
theorem cv461 {gh : sxGh} (hg : sxGd sxKw gh) : sxCtV sxKw gh ct461 := sxMeB_ok (cts := []) (cuts := cu461) (sp := []) 97 (by decide +kernel) hg (by decide) (by decide) (fun _ h => absurd h List.not_mem_nil)
/-- Integer.bitCount -/
def ct462 : sxCt := (327, 0, (2, [(1, .ofNat 0, .ofNat 4095)], [], [(0, .inr (false, (1, .ofNat 0)))], [], [], [], []), [], [
  (3, [(2, .ofNat 0, .ofNat 63)], [], [], [.inr (false, (2, .ofNat 0))], [], [], [])], [], 0, 0)
def cu462 : List sxCu := []
set_option maxRecDepth 1000000 in
theorem cv462 {gh : sxGh} (hg : sxGd sxKw gh) : sxCtV sxKw gh ct462 := sxMeB_ok (cts := []) (cuts := cu462) (sp := []) 102 (by decide +kernel) hg (by decide) (by decide) (fun _ h => absurd h List.not_mem_nil)
/-- LotBeliefsModel.ones -/
def ct463 : sxCt := (224, 0, (2, [(1, .ofNat 0, .ofNat 4095)], [], [(0, .inr (true, (1, .ofNat 0)))], [], [], [], []), [], [
  (3, [(2, .negSucc 2147483647, .ofNat 2147483647)], [], [], [.inr (false, (2, .ofNat 0))], [], [], [])], [], 0, 0)
def cu463 : List sxCu := [
  (4, (4, [(1, .ofNat 0, .ofNat 4095), (2, .negSucc 2147483647, .ofNat 2147483647), (3, .ofNat 0, .ofNat 64)], [], [(0, .inr (true, (1, .ofNat 0))), (2, .inr (false, (2, .ofNat 0))), (3, .inr (false, (3, .ofNat 0)))], [], [], [], []), ((0, 3, .ofNat 64), (0, 0, .ofNat 0), (0, 0, .ofNat 0)), 0, 0)]
set_option maxRecDepth 1000000 in
theorem cv463 {gh : sxGh} (hg : sxGd sxKw gh) : sxCtV sxKw gh ct463 := sxMeB_ok (cts := []) (cuts := cu463) (sp := []) 80 (by decide +kernel) hg (by decide) (by decide) (fun _ h => absurd h List.not_mem_nil)
/-- LotBeliefs.Course.hurtsInAll -/
def ct464 : sxCt := (12, 2, (1, [], [], [(0, .inl 32)], [], [], [], []), [], [
  (2, [(1, .negSucc 2147483647, .ofNat 2147483647)], [], [], [.inr (false, (1, .ofNat 0))], [], [], [])], [], 0, 0)
def cu464 : List sxCu := [
  (4, (3, [(1, .negSucc 2147483647, .ofNat 2147483647), (2, .ofNat 0, .ofNat 12)], [], [(0, .inl 32), (1, .inr (false, (1, .ofNat 0))), (2, .inr (false, (2, .ofNat 0)))], [], [], [], []), ((0, 2, .ofNat 12), (0, 0, .ofNat 0), (0, 0, .ofNat 0)), 0, 0)]
set_option maxRecDepth 1000000 in
theorem cv464 {gh : sxGh} (hg : sxGd sxKw gh) : sxCtV sxKw gh ct464 := sxMeB_ok (cts := []) (cuts := cu464) (sp := []) 211 (by decide +kernel) hg (by decide) (by decide) (fun _ h => absurd h List.not_mem_nil)
/-- LotBeliefs.Course.gone -/
def ct465 : sxCt := (13, 0, (2, [(1, .ofNat 0, .ofNat 1)], [], [(0, .inl 32), (1, .inr (false, (1, .ofNat 0)))], [], [], [], []), [], [
  (3, [(2, .ofNat 0, .ofNat 12)], [], [], [.inr (false, (2, .ofNat 0))], [], [], [])], [], 0, 0)
def cu465 : List sxCu := [
  (4, (4, [(1, .ofNat 0, .ofNat 1), (2, .ofNat 0, .ofNat 12), (3, .ofNat 0, .ofNat 12)], [(2, 3, .ofNat 0)], [(0, .inl 32), (1, .inr (false, (1, .ofNat 0))), (2, .inr (false, (2, .ofNat 0))), (3, .inr (false, (3, .ofNat 0)))], [], [], [], []), ((0, 3, .ofNat 12), (0, 0, .ofNat 0), (0, 0, .ofNat 0)), 0, 0)]
set_option maxRecDepth 1000000 in
theorem cv465 {gh : sxGh} (hg : sxGd sxKw gh) : sxCtV sxKw gh ct465 := sxMeB_ok (cts := []) (cuts := cu465) (sp := []) 129 (by decide +kernel) hg (by decide) (by decide) (fun _ h => absurd h List.not_mem_nil)
/-- LotBeliefs.copyOrder -/
def ct466 : sxCt := (183, 0, (2, [(1, .ofNat 0, .ofNat 1)], [], [(0, .inl 0), (1, .inr (false, (1, .ofNat 0)))], [], [], [], []), [(31, 0)], [
  (2, [], [], [], [], [], [], [])], [], 0, 0)
def cu466 : List sxCu := [
  (2, (3, [(1, .ofNat 0, .ofNat 1), (2, .ofNat 0, .ofNat 12)], [], [(0, .inl 0), (1, .inr (false, (1, .ofNat 0))), (2, .inr (false, (2, .ofNat 0)))], [], [], [], []), ((0, 2, .ofNat 12), (0, 0, .ofNat 0), (0, 0, .ofNat 0)), 0, 0)]
set_option maxRecDepth 1000000 in
theorem cv466 {gh : sxGh} (hg : sxGd sxKw gh) : sxCtV sxKw gh ct466 := sxMeB_ok (cts := []) (cuts := cu466) (sp := []) 111 (by decide +kernel) hg (by decide) (by decide) (fun _ h => absurd h List.not_mem_nil)
/-- LotBeliefs.Course.goBack -/
def ct467 : sxCt := (3, 1, (2, [(1, .ofNat 0, .ofNat 1)], [], [(0, .inl 32), (1, .inl 31), (2, .inr (false, (1, .ofNat 0)))], [], [], [], []), [(32, 11), (32, 12), (33000037, 0)], [
  (3, [(2, .ofNat 0, .ofNat 17)], [], [], [], [(32, (0, .ofNat 10), .inr (false, (2, .ofNat 0)))], [], [])], [], 0, 0)
def cu467 : List sxCu := [
  (12, (3, [(1, .ofNat 0, .ofNat 1), (2, .ofNat 0, .ofNat 17)], [], [(0, .inl 32), (1, .inl 31), (2, .inr (false, (1, .ofNat 0))), (3, .inr (false, (2, .ofNat 0)))], [], [(32, (0, .ofNat 10), .inr (false, (0, .ofNat 0))), (32, (0, .ofNat 11), .inr (false, (0, .ofNat 0)))], [], []), ((0, 2, .ofNat 19), (0, 0, .ofNat 0), (0, 0, .ofNat 0)), 0, 0), 
  (46, (4, [(1, .ofNat 0, .ofNat 1), (2, .ofNat 0, .ofNat 1), (3, .ofNat 0, .ofNat 17)], [], [(0, .inl 32), (1, .inl 31), (2, .inr (false, (1, .ofNat 0))), (3, .inr (false, (2, .ofNat 0)))], [], [(32, (0, .ofNat 4), .inl 33), (32, (0, .ofNat 10), .inr (false, (3, .ofNat 0)))], [], []), ((0, 2, .ofNat 1), (0, 0, .ofNat 0), (0, 0, .ofNat 0)), 0, 0)]
set_option maxRecDepth 1000000 in
theorem cv467 {gh : sxGh} (hg : sxGd sxKw gh) : sxCtV sxKw gh ct467 := sxMeB_ok (cts := [ct331]) (cuts := cu467) (sp := []) 125 (by decide +kernel) hg (by decide) (by decide) (List.forall_mem_cons.mpr ⟨cv331 hg, (fun _ h => absurd h List.not_mem_nil)⟩)
/-- LotBeliefs.Course.play -/
def ct468 : sxCt := (2, 4, (3, [(1, .ofNat 0, .ofNat 12), (2, .ofNat 0, .ofNat 1)], [], [(0, .inl 32), (1, .inl 31), (2, .inr (false, (1, .ofNat 0))), (3, .inr (false, (2, .ofNat 0)))], [], [], [], []), [(21, 0), (22, 0), (25, 0), (26, 0), (32, 9), (32, 11), (32, 12), (33000037, 0)], [
  (5, [(3, .ofNat 0, .ofNat 4095), (4, .negSucc 2147483647, .ofNat 2147483647)], [], [], [], [(32, (0, .ofNat 8), .inr (false, (3, .ofNat 0))), (32, (0, .ofNat 11), .inr (false, (4, .ofNat 0)))], [], [])], [], 0, 0)
def cu468 : List sxCu := [
  (9, (4, [(1, .ofNat 0, .ofNat 12), (2, .ofNat 0, .ofNat 1), (3, .ofNat 0, .ofNat 12)], [(2, 3, .ofNat 0), (3, 1, .ofNat 1)], [(0, .inl 32), (1, .inl 31), (2, .inr (false, (1, .ofNat 0))), (3, .inr (false, (2, .ofNat 0))), (4, .inr (false, (3, .ofNat 0)))], [], [], [], []), ((0, 3, .ofNat 12), (0, 0, .ofNat 0), (0, 0, .ofNat 0)), 0, 0)]
set_option maxRecDepth 1000000 in
theorem cv468 {gh : sxGh} (hg : sxGd sxKw gh) : sxCtV sxKw gh ct468 := sxMeB_ok (cts := [ct467, ct331, ct368, ct351, ct369, ct350]) (cuts := cu468) (sp := []) 134 (by decide +kernel) hg (by decide) (by decide) (List.forall_mem_cons.mpr ⟨cv467 hg, (List.forall_mem_cons.mpr ⟨cv331 hg, (List.forall_mem_cons.mpr ⟨cv368 hg, (List.forall_mem_cons.mpr ⟨cv351 hg, (List.forall_mem_cons.mpr ⟨cv369 hg, (List.forall_mem_cons.mpr ⟨cv350 hg, (fun _ h => absurd h List.not_mem_nil)⟩)⟩)⟩)⟩)⟩)⟩)
/-- LotBeliefs.touchy -/
def ct469 : sxCt := (133, 6, (1, [], [], [(0, .inl 0)], [], [], [], []), [(21, 0), (22, 0), (25, 0), (26, 0), (31, 0), (32, 1), (32, 2), (32, 3), (32, 4), (32, 9), (32, 11), (32, 12), (33000037, 0)], [
  (6, [(1, .ofNat 0, .ofNat 11), (2, .ofNat 0, .ofNat 4), (3, .ofNat 0, .ofNat 63), (4, .ofNat 0, .ofNat 4095), (5, .negSucc 2147483647, .ofNat 2147483647)], [], [], [.inr (false, (1, .ofNat 0))], [(32, (0, .ofNat 2), .inr (false, (2, .ofNat 0))), (32, (0, .ofNat 3), .inr (false, (3, .ofNat 0))), (32, (0, .ofNat 8), .inr (false, (4, .ofNat 0))), (32, (0, .ofNat 11), .inr (false, (5, .ofNat 0)))], [], [])], [], 0, 0)
def cu469 : List sxCu := [
  (21, (8, [(1, .ofNat 0, .ofNat 4095), (2, .ofNat 0, .ofNat 11), (3, .ofNat 0, .ofNat 11), (4, .ofNat 0, .ofNat 4), (5, .ofNat 0, .ofNat 63), (6, .ofNat 0, .ofNat 4095), (7, .negSucc 2147483647, .ofNat 2147483647)], [(2, 3, .ofNat 0)], [(0, .inl 0), (1, .inr (false, (1, .ofNat 0))), (2, .inr (false, (2, .ofNat 0))), (3, .inr (false, (3, .ofNat 0)))], [], [(0, (0, .ofNat 7), .inl 27), (0, (0, .ofNat 12), .inl 32), (27, (0, .ofNat 0), .inl 28), (27, (0, .ofNat 1), .inr (false, (4, .ofNat 0))), (27, (0, .ofNat 2), .inr (false, (5, .ofNat 0))), (32, (0, .ofNat 2), .inr (false, (4, .ofNat 0))), (32, (0, .ofNat 3), .inr (false, (5, .ofNat 0))), (32, (0, .ofNat 8), .inr (false, (6, .ofNat 0))), (32, (0, .ofNat 11), .inr (false, (7, .ofNat 0)))], [], []), ((0, 3, .ofNat 11), (0, 0, .ofNat 0), (0, 0, .ofNat 0)), 0, 0)]
set_option maxRecDepth 1000000 in
theorem cv469 {gh : sxGh} (hg : sxGd sxKw gh) : sxCtV sxKw gh ct469 := sxMeB_ok (cts := [ct370, ct468, ct466]) (cuts := cu469) (sp := []) 685 (by decide +kernel) hg (by decide) (by decide) (List.forall_mem_cons.mpr ⟨cv370 hg, (List.forall_mem_cons.mpr ⟨cv468 hg, (List.forall_mem_cons.mpr ⟨cv466 hg, (fun _ h => absurd h List.not_mem_nil)⟩)⟩)⟩)
/-- LotBeliefs.Course.seat -/
def ct471 : sxCt := (4, 0, (2, [(1, .ofNat 0, .ofNat 6)], [], [(0, .inl 32), (1, .inr (false, (1, .ofNat 0)))], [], [], [], []), [(32, 11), (32, 12), (34000037, 0)], [
  (3, [(2, .ofNat 1, .ofNat 17)], [], [], [], [(32, (0, .ofNat 10), .inr (false, (2, .ofNat 0)))], [], [])], [], 0, 0)
def cu471 : List sxCu := []
set_option maxRecDepth 1000000 in
theorem cv471 {gh : sxGh} (hg : sxGd sxKw gh) : sxCtV sxKw gh ct471 := sxMeB_ok (cts := []) (cuts := cu471) (sp := []) 103 (by decide +kernel) hg (by decide) (by decide) (fun _ h => absurd h List.not_mem_nil)
/-- LotBeliefs.Course.lives -/
def ct505 : sxCt := (6, 0, (3, [(1, .ofNat 0, .ofNat 6), (2, .ofNat 0, .ofNat 6)], [], [(0, .inl 32), (1, .inr (false, (1, .ofNat 0))), (2, .inr (false, (2, .ofNat 0)))], [], [], [], []), [(33000036, 0)], [
  (3, [], [], [], [.inr (false, (0, .ofNat 0))], [], [], []), 
  (3, [], [], [], [.inr (false, (0, .ofNat 1))], [], [], [])], [], 0, 0)
def cu505 : List sxCu := []
set_option maxRecDepth 1000000 in
theorem cv505 {gh : sxGh} (hg : sxGd sxKw gh) : sxCtV sxKw gh ct505 := sxMeB_ok (cts := []) (cuts := cu505) (sp := []) 196 (by decide +kernel) hg (by decide) (by decide) (fun _ h => absurd h List.not_mem_nil)
/-- LotBeliefs.Survey.digits -/
def ct507 : sxCt := (71, 0, (2, [(1, .ofNat 0, .ofNat 7)], [], [(0, .inl 74), (1, .inr (false, (1, .ofNat 0)))], [], [], [], []), [], [
  (3, [(2, .negSucc 9223372036854775807, .ofNat 9223372036854775807)], [], [], [.inr (true, (2, .ofNat 0))], [], [], [])], [], 0, 0)
def cu507 : List sxCu := [
  (5, (4, [(1, .ofNat 0, .ofNat 7), (2, .negSucc 9223372036854775807, .ofNat 9223372036854775807), (3, .ofNat 0, .ofNat 7)], [], [(0, .inl 74), (1, .inr (false, (1, .ofNat 0))), (2, .inr (true, (2, .ofNat 0))), (4, .inr (false, (3, .ofNat 0)))], [], [], [], []), ((0, 3, .ofNat 7), (0, 0, .ofNat 0), (0, 0, .ofNat 0)), 0, 0)]
set_option maxRecDepth 1000000 in
theorem cv507 {gh : sxGh} (hg : sxGd sxKw gh) : sxCtV sxKw gh ct507 := sxMeB_ok (cts := []) (cuts := cu507) (sp := []) 81 (by decide +kernel) hg (by decide) (by decide) (fun _ h => absurd h List.not_mem_nil)
/-- LotBeliefs.Survey.note -/
def ct508 : sxCt := (70, 1, (4, [(1, .ofNat 0, .ofNat 4095), (2, .negSucc 2147483647, .ofNat 2147483647), (3, .ofNat 0, .ofNat 7)], [], [(0, .inl 74), (1, .inr (false, (1, .ofNat 0))), (2, .inr (false, (2, .ofNat 0))), (3, .inr (false, (3, .ofNat 0)))], [], [], [], []), [(74, 6), (74, 7), (75, 0), (76, 0)], [
  (5, [(4, .negSucc 2147483647, .ofNat 2147483647)], [(2, 4, .ofNat 0)], [], [], [(74, (0, .ofNat 5), .inr (false, (4, .ofNat 0)))], [], [])], [], 0, 0)
def cu508 : List sxCu := []
set_option maxRecDepth 1000000 in
theorem cv508 {gh : sxGh} (hg : sxGd sxKw gh) : sxCtV sxKw gh ct508 := sxMeB_ok (cts := [ct507]) (cuts := cu508) (sp := []) 141 (by decide +kernel) hg (by decide) (by decide) (List.forall_mem_cons.mpr ⟨cv507 hg, (fun _ h => absurd h List.not_mem_nil)⟩)
/-- LotBeliefs.Survey.advance -/
def ct509 : sxCt := (72, 1, (2, [(1, .ofNat 0, .ofNat 7)], [], [(0, .inl 74), (1, .inr (false, (1, .ofNat 0)))], [], [], [], []), [(77, 0)], [
  (3, [(2, .negSucc 0, .ofNat 5)], [(2, 1, .negSucc 0)], [], [.inr (false, (2, .ofNat 0))], [], [], [])], [], 0, 0)
def cu509 : List sxCu := [
  (4, (3, [(1, .ofNat 0, .ofNat 7), (2, .negSucc 1, .ofNat 5)], [(2, 1, .negSucc 1)], [(0, .inl 74), (1, .inr (false, (1, .ofNat 0))), (2, .inr (false, (2, .ofNat 0)))], [], [], [], []), ((2, 0, .ofNat 15), (0, 0, .ofNat 0), (0, 0, .ofNat 0)), 0, 0), 
  (41, (4, [(1, .ofNat 2, .ofNat 7), (2, .ofNat 0, .ofNat 5), (3, .ofNat 0, .ofNat 6)], [(2, 1, .negSucc 1), (3, 1, .negSucc 0)], [(0, .inl 74), (1, .inr (false, (1, .ofNat 0))), (2, .inr (false, (2, .ofNat 0))), (3, .inr (false, (3, .ofNat 0)))], [], [(74, (0, .ofNat 7), .inl 77)], [], []), ((3, 0, .ofNat 6), (0, 0, .ofNat 0), (0, 0, .ofNat 0)), 0, 0), 
  (83, (6, [(1, .ofNat 2, .ofNat 7), (2, .ofNat 0, .ofNat 5), (3, .ofNat 0, .ofNat 6), (4, .ofNat 1, .ofNat 6), (5, .ofNat 1, .ofNat 6)], [(2, 1, .negSucc 1), (2, 4, .negSucc 0), (2, 5, .negSucc 0), (3, 1, .negSucc 0), (4, 1, .negSucc 0), (5, 1, .negSucc 0)], [(0, .inl 74), (1, .inr (false, (1, .ofNat 0))), (2, .inr (false, (2, .ofNat 0))), (3, .inr (false, (3, .ofNat 0))), (4, .inr (false, (4, .ofNat 0))), (5, .inr (false, (5, .ofNat 0)))], [], [(74, (0, .ofNat 7), .inl 77)], [], []), ((0, 4, .ofNat 6), (0, 0, .ofNat 0), (0, 0, .ofNat 0)), 0, 0)]
set_option maxRecDepth 1000000 in
theorem cv509 {gh : sxGh} (hg : sxGd sxKw gh) : sxCtV sxKw gh ct509 := sxMeB_ok (cts := []) (cuts := cu509) (sp := []) 196 (by decide +kernel) hg (by decide) (by decide) (fun _ h => absurd h List.not_mem_nil)
/-- LotBeliefs.Course.goBack -/
def ct510 : sxCt := (3, 1, (2, [(1, .ofNat 0, .ofNat 5)], [], [(0, .inl 32), (1, .inl 77), (2, .inr (false, (1, .ofNat 0)))], [], [], [], []), [(32, 11), (32, 12), (33000037, 0)], [
  (3, [(2, .ofNat 0, .ofNat 17)], [], [], [], [(32, (0, .ofNat 10), .inr (false, (2, .ofNat 0)))], [], [])], [], 0, 0)
def cu510 : List sxCu := [
  (12, (3, [(1, .ofNat 0, .ofNat 5), (2, .ofNat 0, .ofNat 17)], [], [(0, .inl 32), (1, .inl 77), (2, .inr (false, (1, .ofNat 0))), (3, .inr (false, (2, .ofNat 0)))], [], [(32, (0, .ofNat 10), .inr (false, (0, .ofNat 0))), (32, (0, .ofNat 11), .inr (false, (0, .ofNat 0)))], [], []), ((0, 2, .ofNat 23), (0, 0, .ofNat 0), (0, 0, .ofNat 0)), 0, 0), 
  (46, (4, [(1, .ofNat 0, .ofNat 5), (2, .ofNat 0, .ofNat 5), (3, .ofNat 0, .ofNat 17)], [], [(0, .inl 32), (1, .inl 77), (2, .inr (false, (1, .ofNat 0))), (3, .inr (false, (2, .ofNat 0)))], [], [(32, (0, .ofNat 4), .inl 33), (32, (0, .ofNat 10), .inr (false, (3, .ofNat 0)))], [], []), ((0, 2, .ofNat 5), (0, 0, .ofNat 0), (0, 0, .ofNat 0)), 0, 0)]
set_option maxRecDepth 1000000 in
theorem cv510 {gh : sxGh} (hg : sxGd sxKw gh) : sxCtV sxKw gh ct510 := sxMeB_ok (cts := [ct471]) (cuts := cu510) (sp := []) 123 (by decide +kernel) hg (by decide) (by decide) (List.forall_mem_cons.mpr ⟨cv471 hg, (fun _ h => absurd h List.not_mem_nil)⟩)
/-- LotBeliefs.Course.play -/
def ct511 : sxCt := (2, 4, (3, [(1, .ofNat 0, .ofNat 7), (2, .ofNat 0, .ofNat 5)], [], [(0, .inl 32), (1, .inl 77), (2, .inr (false, (1, .ofNat 0))), (3, .inr (false, (2, .ofNat 0)))], [], [], [], []), [(21, 0), (22, 0), (25, 0), (26, 0), (32, 9), (32, 11), (32, 12), (33000037, 0)], [
  (5, [(3, .ofNat 0, .ofNat 4095), (4, .negSucc 2147483647, .ofNat 2147483647)], [], [], [], [(32, (0, .ofNat 8), .inr (false, (3, .ofNat 0))), (32, (0, .ofNat 11), .inr (false, (4, .ofNat 0)))], [], [])], [], 0, 0)
def cu511 : List sxCu := [
  (9, (4, [(1, .ofNat 0, .ofNat 7), (2, .ofNat 0, .ofNat 5), (3, .ofNat 0, .ofNat 7)], [(2, 3, .ofNat 0), (3, 1, .ofNat 5)], [(0, .inl 32), (1, .inl 77), (2, .inr (false, (1, .ofNat 0))), (3, .inr (false, (2, .ofNat 0))), (4, .inr (false, (3, .ofNat 0)))], [], [], [], []), ((0, 3, .ofNat 7), (0, 0, .ofNat 0), (0, 0, .ofNat 0)), 0, 0)]
set_option maxRecDepth 1000000 in
theorem cv511 {gh : sxGh} (hg : sxGd sxKw gh) : sxCtV sxKw gh ct511 := sxMeB_ok (cts := [ct510, ct471, ct360, ct351, ct505, ct350]) (cuts := cu511) (sp := []) 132 (by decide +kernel) hg (by decide) (by decide) (List.forall_mem_cons.mpr ⟨cv510 hg, (List.forall_mem_cons.mpr ⟨cv471 hg, (List.forall_mem_cons.mpr ⟨cv360 hg, (List.forall_mem_cons.mpr ⟨cv351 hg, (List.forall_mem_cons.mpr ⟨cv505 hg, (List.forall_mem_cons.mpr ⟨cv350 hg, (fun _ h => absurd h List.not_mem_nil)⟩)⟩)⟩)⟩)⟩)⟩)
/-- LotBeliefs.Survey.take -/
def ct512 : sxCt := (69, 5, (2, [(1, .ofNat 0, .ofNat 63)], [], [(0, .inl 74), (1, .inl 3), (2, .inl 23), (3, .inr (false, (1, .ofNat 0))), (4, .inl 32)], [], [], [], []), [(21, 0), (22, 0), (25, 0), (26, 0), (32, 1), (32, 2), (32, 3), (32, 4), (32, 9), (32, 11), (32, 12), (74, 2), (74, 3), (74, 6), (74, 7), (33000037, 0), (75000077, 0)], [
  (3, [(2, .ofNat 0, .ofNat 63)], [(1, 2, .ofNat 0), (2, 1, .ofNat 0)], [], [], [(74, (0, .ofNat 1), .inr (false, (0, .ofNat 1))), (74, (0, .ofNat 2), .inr (false, (2, .ofNat 0)))], [], [])], [], 0, 0)
def cu512 : List sxCu := [
  (115, (7, [(1, .ofNat 0, .ofNat 63), (2, .ofNat 0, .ofNat 7), (3, .negSucc 0, .ofNat 5), (4, .ofNat 0, .ofNat 5040), (5, .ofNat 0, .ofNat 12), (6, .negSucc 2147483647, .ofNat 2147483647)], [(2, 5, .ofNat 0), (5, 2, .ofNat 5)], [(0, .inl 74), (1, .inl 3), (2, .inl 23), (3, .inr (false, (1, .ofNat 0))), (4, .inl 32), (5, .inr (false, (2, .ofNat 0))), (6, .inr (false, (3, .ofNat 0))), (7, .inr (false, (4, .ofNat 0)))], [], [(3, (0, .ofNat 2), .inr (false, (5, .ofNat 0))), (32, (0, .ofNat 0), .inl 3), (32, (0, .ofNat 1), .inl 23), (32, (0, .ofNat 2), .inr (false, (0, .ofNat 4))), (32, (0, .ofNat 3), .inr (false, (1, .ofNat 0))), (74, (0, .ofNat 0), .inr (false, (0, .ofNat 4))), (74, (0, .ofNat 1), .inr (false, (0, .ofNat 1))), (74, (0, .ofNat 2), .inr (false, (1, .ofNat 0))), (74, (0, .ofNat 3), .inl 75), (74, (0, .ofNat 5), .inr (false, (6, .ofNat 0))), (74, (0, .ofNat 7), .inl 77)], [], []), ((0, 4, .ofNat 5040), (0, 0, .ofNat 0), (0, 0, .ofNat 0)), 0, 0), 
  (34, (3, [(1, .ofNat 0, .ofNat 63), (2, .ofNat 0, .ofNat 128)], [], [(0, .inl 74), (1, .inl 3), (2, .inl 23), (3, .inr (false, (1, .ofNat 0))), (4, .inl 32), (5, .inr (false, (2, .ofNat 0)))], [], [(74, (0, .ofNat 1), .inr (false, (0, .ofNat 1))), (74, (0, .ofNat 2), .inr (false, (1, .ofNat 0))), (74, (0, .ofNat 5), .inr (false, (0, .negSucc 0)))], [], []), ((0, 2, .ofNat 5177), (0, 0, .ofNat 0), (0, 0, .ofNat 0)), 0, 0), 
  (75, (5, [(1, .ofNat 0, .ofNat 63), (2, .ofNat 0, .ofNat 7), (3, .ofNat 0, .ofNat 7), (4, .ofNat 0, .ofNat 12)], [(2, 4, .ofNat 0), (4, 2, .ofNat 5)], [(0, .inl 74), (1, .inl 3), (2, .inl 23), (3, .inr (false, (1, .ofNat 0))), (4, .inl 32), (5, .inr (false, (2, .ofNat 0))), (6, .inr (false, (3, .ofNat 0)))], [], [(3, (0, .ofNat 2), .inr (false, (4, .ofNat 0))), (74, (0, .ofNat 1), .inr (false, (0, .ofNat 1))), (74, (0, .ofNat 2), .inr (false, (1, .ofNat 0))), (74, (0, .ofNat 3), .inl 75), (74, (0, .ofNat 5), .inr (false, (0, .negSucc 0))), (74, (0, .ofNat 7), .inl 77)], [], []), ((0, 3, .ofNat 5048), (0, 0, .ofNat 0), (0, 0, .ofNat 0)), 0, 0)]
set_option maxRecDepth 1000000 in
theorem cv512 {gh : sxGh} (hg : sxGd sxKw gh) : sxCtV sxKw gh ct512 := sxMeB_ok (cts := [ct511, ct464, ct508, ct509]) (cuts := cu512) (sp := []) 179 (by decide +kernel) hg (by decide) (by decide) (List.forall_mem_cons.mpr ⟨cv511 hg, (List.forall_mem_cons.mpr ⟨cv464 hg, (List.forall_mem_cons.mpr ⟨cv508 hg, (List.forall_mem_cons.mpr ⟨cv509 hg, (fun _ h => absurd h List.not_mem_nil)⟩)⟩)⟩)⟩)
/-- LotBeliefs.Survey.never -/
def ct513 : sxCt := (76, 0, (2, [(1, .ofNat 0, .ofNat 7)], [], [(0, .inl 74), (1, .inr (false, (1, .ofNat 0)))], [], [], [], []), [], [
  (3, [(2, .ofNat 0, .ofNat 127)], [], [], [.inr (false, (2, .ofNat 0))], [], [], [])], [], 0, 0)
def cu513 : List sxCu := [
  (8, (4, [(1, .ofNat 0, .ofNat 7), (2, .ofNat 0, .ofNat 127), (3, .ofNat 0, .ofNat 128)], [], [(0, .inl 74), (1, .inr (false, (1, .ofNat 0))), (2, .inr (false, (2, .ofNat 0))), (3, .inr (false, (3, .ofNat 0)))], [], [], [], []), ((0, 3, .ofNat 128), (0, 0, .ofNat 0), (0, 0, .ofNat 0)), 0, 0)]
set_option maxRecDepth 1000000 in
theorem cv513 {gh : sxGh} (hg : sxGd sxKw gh) : sxCtV sxKw gh ct513 := sxMeB_ok (cts := []) (cuts := cu513) (sp := []) 90 (by decide +kernel) hg (by decide) (by decide) (fun _ h => absurd h List.not_mem_nil)
/-- LotBeliefsModel.leaves -/
def ct567 : sxCt := (261, 0, (3, [(1, .ofNat 0, .ofNat 15), (2, .ofNat 1, .ofNat 17)], [], [(0, .inl 78), (1, .inr (false, (1, .ofNat 0)))], [], [(78, (0, .ofNat 44), .inr (false, (2, .ofNat 0)))], [(561, (2, .ofNat 0), .inr (false, .ofNat 0, .ofNat 6))], []), [(78, 45), (561, 0)], [
  (3, [], [], [], [], [(78, (0, .ofNat 44), .inr (false, (2, .negSucc 0)))], [(561, (2, .ofNat 0), .inr (false, .ofNat 0, .ofNat 6))], [])], [], 0, 0)
def cu567 : List sxCu := [
  (12, (4, [(1, .ofNat 0, .ofNat 15), (2, .ofNat 1, .ofNat 17), (3, .ofNat 0, .ofNat 16)], [(1, 3, .ofNat 0), (3, 2, .ofNat 14)], [(0, .inl 78), (1, .inr (false, (1, .ofNat 0))), (2, .inr (false, (3, .ofNat 0)))], [], [(78, (0, .ofNat 44), .inr (false, (2, .negSucc 0)))], [(561, (2, .ofNat 0), .inr (false, .ofNat 0, .ofNat 6))], []), ((0, 3, .ofNat 16), (0, 0, .ofNat 0), (0, 0, .ofNat 0)), 0, 0)]
set_option maxRecDepth 1000000 in
theorem cv567 {gh : sxGh} (hg : sxGd sxKw gh) : sxCtV sxKw gh ct567 := sxMeB_ok (cts := []) (cuts := cu567) (sp := []) 85 (by decide +kernel) hg (by decide) (by decide) (fun _ h => absurd h List.not_mem_nil)
/-- LotBeliefsModel.leaves -/
def ct576 : sxCt := (261, 0, (3, [(1, .ofNat 0, .ofNat 16), (2, .ofNat 1, .ofNat 17)], [], [(0, .inl 78), (1, .inr (false, (1, .ofNat 0)))], [], [(78, (0, .ofNat 44), .inr (false, (2, .ofNat 0)))], [(561, (2, .ofNat 0), .inr (false, .ofNat 0, .ofNat 6))], []), [(78, 45), (561, 0)], [
  (3, [], [], [], [], [(78, (0, .ofNat 44), .inr (false, (2, .negSucc 0)))], [(561, (2, .ofNat 0), .inr (false, .ofNat 0, .ofNat 6))], [])], [], 0, 0)
def cu576 : List sxCu := [
  (12, (4, [(1, .ofNat 0, .ofNat 16), (2, .ofNat 1, .ofNat 17), (3, .ofNat 0, .ofNat 16)], [(1, 3, .ofNat 0)], [(0, .inl 78), (1, .inr (false, (1, .ofNat 0))), (2, .inr (false, (3, .ofNat 0)))], [], [(78, (0, .ofNat 44), .inr (false, (2, .negSucc 0)))], [(561, (2, .ofNat 0), .inr (false, .ofNat 0, .ofNat 6))], []), ((0, 3, .ofNat 16), (0, 0, .ofNat 0), (0, 0, .ofNat 0)), 0, 0)]
set_option maxRecDepth 1000000 in
theorem cv576 {gh : sxGh} (hg : sxGd sxKw gh) : sxCtV sxKw gh ct576 := sxMeB_ok (cts := []) (cuts := cu576) (sp := []) 85 (by decide +kernel) hg (by decide) (by decide) (fun _ h => absurd h List.not_mem_nil)
/-- LotBeliefsModel.kills -/
def ct580 : sxCt := (262, 1, (3, [(1, .ofNat 0, .ofNat 51), (2, .ofNat 0, .ofNat 17)], [(2, 1, .ofNat 0)], [(0, .inl 78), (1, .inr (false, (1, .ofNat 0)))], [], [(78, (0, .ofNat 44), .inr (false, (2, .ofNat 0)))], [(561, (2, .ofNat 0), .inr (false, .ofNat 0, .ofNat 6))], []), [(78, 45), (78, 47), (561, 0), (563, 0)], [
  (4, [(3, .ofNat 0, .ofNat 17)], [(3, 1, .ofNat 0), (3, 2, .ofNat 0)], [], [], [(78, (0, .ofNat 44), .inr (false, (3, .ofNat 0)))], [(561, (3, .ofNat 0), .inr (false, .ofNat 0, .ofNat 6))], [])], [], 0, 0)
def cu580 : List sxCu := [
  (2, (5, [(1, .ofNat 0, .ofNat 51), (2, .ofNat 0, .ofNat 17), (3, .ofNat 0, .ofNat 17), (4, .ofNat 0, .ofNat 17)], [(4, 1, .ofNat 0), (4, 2, .ofNat 0), (2, 1, .ofNat 0)], [(0, .inl 78), (1, .inr (false, (1, .ofNat 0))), (2, .inr (false, (3, .ofNat 0)))], [], [(78, (0, .ofNat 44), .inr (false, (4, .ofNat 0)))], [(561, (4, .ofNat 0), .inr (false, .ofNat 0, .ofNat 6))], []), ((4, 3, .ofNat 17), (0, 0, .ofNat 0), (0, 0, .ofNat 0)), 0, 0)]
set_option maxRecDepth 1000000 in
theorem cv580 {gh : sxGh} (hg : sxGd sxKw gh) : sxCtV sxKw gh ct580 := sxMeB_ok (cts := [ct576]) (cuts := cu580) (sp := []) 121 (by decide +kernel) hg (by decide) (by decide) (List.forall_mem_cons.mpr ⟨cv576 hg, (fun _ h => absurd h List.not_mem_nil)⟩)
/-- LotBeliefsModel.ones -/
def ct582 : sxCt := (224, 0, (2, [(1, .ofNat 0, .ofNat 127)], [], [(0, .inr (true, (1, .ofNat 0)))], [], [], [], []), [], [
  (3, [(2, .negSucc 2147483647, .ofNat 2147483647)], [], [], [.inr (false, (2, .ofNat 0))], [], [], [])], [], 0, 0)
def cu582 : List sxCu := [
  (4, (4, [(1, .ofNat 0, .ofNat 127), (2, .negSucc 2147483647, .ofNat 2147483647), (3, .ofNat 0, .ofNat 64)], [], [(0, .inr (true, (1, .ofNat 0))), (2, .inr (false, (2, .ofNat 0))), (3, .inr (false, (3, .ofNat 0)))], [], [], [], []), ((0, 3, .ofNat 64), (0, 0, .ofNat 0), (0, 0, .ofNat 0)), 0, 0)]
set_option maxRecDepth 1000000 in
theorem cv582 {gh : sxGh} (hg : sxGd sxKw gh) : sxCtV sxKw gh ct582 := sxMeB_ok (cts := []) (cuts := cu582) (sp := []) 80 (by decide +kernel) hg (by decide) (by decide) (fun _ h => absurd h List.not_mem_nil)
/-- LotBeliefs.Survey.always -/
def ct634 : sxCt := (75, 0, (2, [(1, .ofNat 0, .ofNat 7)], [], [(0, .inl 74), (1, .inr (false, (1, .ofNat 0)))], [], [], [], []), [], [
  (3, [(2, .ofNat 0, .ofNat 127)], [], [], [.inr (false, (2, .ofNat 0))], [], [], [])], [], 0, 0)
def cu634 : List sxCu := [
  (8, (4, [(1, .ofNat 0, .ofNat 7), (2, .ofNat 0, .ofNat 127), (3, .ofNat 0, .ofNat 128)], [], [(0, .inl 74), (1, .inr (false, (1, .ofNat 0))), (2, .inr (false, (2, .ofNat 0))), (3, .inr (false, (3, .ofNat 0)))], [], [], [], []), ((0, 3, .ofNat 128), (0, 0, .ofNat 0), (0, 0, .ofNat 0)), 0, 0)]
set_option maxRecDepth 1000000 in
theorem cv634 {gh : sxGh} (hg : sxGd sxKw gh) : sxCtV sxKw gh ct634 := sxMeB_ok (cts := []) (cuts := cu634) (sp := []) 88 (by decide +kernel) hg (by decide) (by decide) (fun _ h => absurd h List.not_mem_nil)
/-- LotBeliefs.Survey.unlike -/
def ct635 : sxCt := (74, 0, (1, [], [], [(0, .inl 74)], [], [], [], []), [], [
  (2, [(1, .ofNat 0, .ofNat 128)], [], [], [.inr (false, (1, .ofNat 0))], [], [], [])], [], 0, 0)
def cu635 : List sxCu := [
  (4, (3, [(1, .ofNat 0, .ofNat 128), (2, .ofNat 0, .ofNat 128)], [(1, 2, .ofNat 0)], [(0, .inl 74), (1, .inr (false, (1, .ofNat 0))), (2, .inr (false, (2, .ofNat 0)))], [], [], [], []), ((0, 2, .ofNat 128), (0, 0, .ofNat 0), (0, 0, .ofNat 0)), 0, 0)]
set_option maxRecDepth 1000000 in
theorem cv635 {gh : sxGh} (hg : sxGd sxKw gh) : sxCtV sxKw gh ct635 := sxMeB_ok (cts := []) (cuts := cu635) (sp := []) 81 (by decide +kernel) hg (by decide) (by decide) (fun _ h => absurd h List.not_mem_nil)
/-- LotBeliefs.Survey.take -/
def ct636 : sxCt := (69, 5, (2, [(1, .ofNat 0, .ofNat 63)], [], [(0, .inl 74), (1, .inl 3), (2, .inl 19), (3, .inr (false, (1, .ofNat 0))), (4, .inl 32)], [], [], [], []), [(21, 0), (22, 0), (25, 0), (26, 0), (32, 1), (32, 2), (32, 3), (32, 4), (32, 9), (32, 11), (32, 12), (74, 2), (74, 3), (74, 6), (74, 7), (33000037, 0), (75000077, 0)], [
  (3, [(2, .ofNat 0, .ofNat 63)], [(1, 2, .ofNat 0), (2, 1, .ofNat 0)], [], [], [(74, (0, .ofNat 1), .inr (false, (0, .ofNat 1))), (74, (0, .ofNat 2), .inr (false, (2, .ofNat 0)))], [], [])], [], 0, 0)
def cu636 : List sxCu := [
  (115, (7, [(1, .ofNat 0, .ofNat 63), (2, .ofNat 0, .ofNat 7), (3, .negSucc 0, .ofNat 5), (4, .ofNat 0, .ofNat 5040), (5, .ofNat 0, .ofNat 12), (6, .negSucc 2147483647, .ofNat 2147483647)], [(2, 5, .ofNat 0), (5, 2, .ofNat 5)], [(0, .inl 74), (1, .inl 3), (2, .inl 19), (3, .inr (false, (1, .ofNat 0))), (4, .inl 32), (5, .inr (false, (2, .ofNat 0))), (6, .inr (false, (3, .ofNat 0))), (7, .inr (false, (4, .ofNat 0)))], [], [(3, (0, .ofNat 2), .inr (false, (5, .ofNat 0))), (32, (0, .ofNat 0), .inl 3), (32, (0, .ofNat 1), .inl 19), (32, (0, .ofNat 2), .inr (false, (0, .ofNat 4))), (32, (0, .ofNat 3), .inr (false, (1, .ofNat 0))), (74, (0, .ofNat 0), .inr (false, (0, .ofNat 4))), (74, (0, .ofNat 1), .inr (false, (0, .ofNat 1))), (74, (0, .ofNat 2), .inr (false, (1, .ofNat 0))), (74, (0, .ofNat 3), .inl 75), (74, (0, .ofNat 5), .inr (false, (6, .ofNat 0))), (74, (0, .ofNat 7), .inl 77)], [], []), ((0, 4, .ofNat 5040), (0, 0, .ofNat 0), (0, 0, .ofNat 0)), 0, 0), 
  (34, (3, [(1, .ofNat 0, .ofNat 63), (2, .ofNat 0, .ofNat 128)], [], [(0, .inl 74), (1, .inl 3), (2, .inl 19), (3, .inr (false, (1, .ofNat 0))), (4, .inl 32), (5, .inr (false, (2, .ofNat 0)))], [], [(74, (0, .ofNat 1), .inr (false, (0, .ofNat 1))), (74, (0, .ofNat 2), .inr (false, (1, .ofNat 0))), (74, (0, .ofNat 5), .inr (false, (0, .negSucc 0)))], [], []), ((0, 2, .ofNat 5177), (0, 0, .ofNat 0), (0, 0, .ofNat 0)), 0, 0), 
  (75, (5, [(1, .ofNat 0, .ofNat 63), (2, .ofNat 0, .ofNat 7), (3, .ofNat 0, .ofNat 7), (4, .ofNat 0, .ofNat 12)], [(2, 4, .ofNat 0), (4, 2, .ofNat 5)], [(0, .inl 74), (1, .inl 3), (2, .inl 19), (3, .inr (false, (1, .ofNat 0))), (4, .inl 32), (5, .inr (false, (2, .ofNat 0))), (6, .inr (false, (3, .ofNat 0)))], [], [(3, (0, .ofNat 2), .inr (false, (4, .ofNat 0))), (74, (0, .ofNat 1), .inr (false, (0, .ofNat 1))), (74, (0, .ofNat 2), .inr (false, (1, .ofNat 0))), (74, (0, .ofNat 3), .inl 75), (74, (0, .ofNat 5), .inr (false, (0, .negSucc 0))), (74, (0, .ofNat 7), .inl 77)], [], []), ((0, 3, .ofNat 5048), (0, 0, .ofNat 0), (0, 0, .ofNat 0)), 0, 0)]
set_option maxRecDepth 1000000 in
theorem cv636 {gh : sxGh} (hg : sxGd sxKw gh) : sxCtV sxKw gh ct636 := sxMeB_ok (cts := [ct511, ct464, ct508, ct509]) (cuts := cu636) (sp := []) 179 (by decide +kernel) hg (by decide) (by decide) (List.forall_mem_cons.mpr ⟨cv511 hg, (List.forall_mem_cons.mpr ⟨cv464 hg, (List.forall_mem_cons.mpr ⟨cv508 hg, (List.forall_mem_cons.mpr ⟨cv509 hg, (fun _ h => absurd h List.not_mem_nil)⟩)⟩)⟩)⟩)
/-- LotBeliefs.Survey.digits -/
def ct666 : sxCt := (71, 0, (2, [(1, .ofNat 0, .ofNat 7)], [], [(0, .inl 70), (1, .inr (false, (1, .ofNat 0)))], [], [], [], []), [], [
  (3, [(2, .negSucc 9223372036854775807, .ofNat 9223372036854775807)], [], [], [.inr (true, (2, .ofNat 0))], [], [], [])], [], 0, 0)
def cu666 : List sxCu := [
  (5, (4, [(1, .ofNat 0, .ofNat 7), (2, .negSucc 9223372036854775807, .ofNat 9223372036854775807), (3, .ofNat 0, .ofNat 7)], [], [(0, .inl 70), (1, .inr (false, (1, .ofNat 0))), (2, .inr (true, (2, .ofNat 0))), (4, .inr (false, (3, .ofNat 0)))], [], [], [], []), ((0, 3, .ofNat 7), (0, 0, .ofNat 0), (0, 0, .ofNat 0)), 0, 0)]
set_option maxRecDepth 1000000 in
theorem cv666 {gh : sxGh} (hg : sxGd sxKw gh) : sxCtV sxKw gh ct666 := sxMeB_ok (cts := []) (cuts := cu666) (sp := []) 81 (by decide +kernel) hg (by decide) (by decide) (fun _ h => absurd h List.not_mem_nil)
/-- LotBeliefs.Survey.note -/
def ct667 : sxCt := (70, 1, (4, [(1, .ofNat 0, .ofNat 4095), (2, .negSucc 2147483647, .ofNat 2147483647), (3, .ofNat 0, .ofNat 7)], [], [(0, .inl 70), (1, .inr (false, (1, .ofNat 0))), (2, .inr (false, (2, .ofNat 0))), (3, .inr (false, (3, .ofNat 0)))], [], [], [], []), [(70, 6), (70, 7), (71, 0), (72, 0)], [
  (5, [(4, .negSucc 2147483647, .ofNat 2147483647)], [(2, 4, .ofNat 0)], [], [], [(70, (0, .ofNat 5), .inr (false, (4, .ofNat 0)))], [], [])], [], 0, 0)
def cu667 : List sxCu := []
set_option maxRecDepth 1000000 in
theorem cv667 {gh : sxGh} (hg : sxGd sxKw gh) : sxCtV sxKw gh ct667 := sxMeB_ok (cts := [ct666]) (cuts := cu667) (sp := []) 141 (by decide +kernel) hg (by decide) (by decide) (List.forall_mem_cons.mpr ⟨cv666 hg, (fun _ h => absurd h List.not_mem_nil)⟩)
/-- LotBeliefs.Survey.advance -/
def ct668 : sxCt := (72, 1, (2, [(1, .ofNat 0, .ofNat 7)], [], [(0, .inl 70), (1, .inr (false, (1, .ofNat 0)))], [], [], [], []), [(73, 0)], [
  (3, [(2, .negSucc 0, .ofNat 5)], [(2, 1, .negSucc 0)], [], [.inr (false, (2, .ofNat 0))], [], [], [])], [], 0, 0)
def cu668 : List sxCu := [
  (4, (3, [(1, .ofNat 0, .ofNat 7), (2, .negSucc 1, .ofNat 5)], [(2, 1, .negSucc 1)], [(0, .inl 70), (1, .inr (false, (1, .ofNat 0))), (2, .inr (false, (2, .ofNat 0)))], [], [], [], []), ((2, 0, .ofNat 15), (0, 0, .ofNat 0), (0, 0, .ofNat 0)), 0, 0), 
  (41, (4, [(1, .ofNat 2, .ofNat 7), (2, .ofNat 0, .ofNat 5), (3, .ofNat 0, .ofNat 6)], [(2, 1, .negSucc 1), (3, 1, .negSucc 0)], [(0, .inl 70), (1, .inr (false, (1, .ofNat 0))), (2, .inr (false, (2, .ofNat 0))), (3, .inr (false, (3, .ofNat 0)))], [], [(70, (0, .ofNat 7), .inl 73)], [], []), ((3, 0, .ofNat 6), (0, 0, .ofNat 0), (0, 0, .ofNat 0)), 0, 0), 
  (83, (6, [(1, .ofNat 2, .ofNat 7), (2, .ofNat 0, .ofNat 5), (3, .ofNat 0, .ofNat 6), (4, .ofNat 1, .ofNat 6), (5, .ofNat 1, .ofNat 6)], [(2, 1, .negSucc 1), (2, 4, .negSucc 0), (2, 5, .negSucc 0), (3, 1, .negSucc 0), (4, 1, .negSucc 0), (5, 1, .negSucc 0)], [(0, .inl 70), (1, .inr (false, (1, .ofNat 0))), (2, .inr (false, (2, .ofNat 0))), (3, .inr (false, (3, .ofNat 0))), (4, .inr (false, (4, .ofNat 0))), (5, .inr (false, (5, .ofNat 0)))], [], [(70, (0, .ofNat 7), .inl 73)], [], []), ((0, 4, .ofNat 6), (0, 0, .ofNat 0), (0, 0, .ofNat 0)), 0, 0)]
set_option maxRecDepth 1000000 in
theorem cv668 {gh : sxGh} (hg : sxGd sxKw gh) : sxCtV sxKw gh ct668 := sxMeB_ok (cts := []) (cuts := cu668) (sp := []) 196 (by decide +kernel) hg (by decide) (by decide) (fun _ h => absurd h List.not_mem_nil)
/-- LotBeliefs.Course.goBack -/
def ct669 : sxCt := (3, 1, (2, [(1, .ofNat 0, .ofNat 5)], [], [(0, .inl 32), (1, .inl 73), (2, .inr (false, (1, .ofNat 0)))], [], [], [], []), [(32, 11), (32, 12), (33000037, 0)], [
  (3, [(2, .ofNat 0, .ofNat 17)], [], [], [], [(32, (0, .ofNat 10), .inr (false, (2, .ofNat 0)))], [], [])], [], 0, 0)
def cu669 : List sxCu := [
  (12, (3, [(1, .ofNat 0, .ofNat 5), (2, .ofNat 0, .ofNat 17)], [], [(0, .inl 32), (1, .inl 73), (2, .inr (false, (1, .ofNat 0))), (3, .inr (false, (2, .ofNat 0)))], [], [(32, (0, .ofNat 10), .inr (false, (0, .ofNat 0))), (32, (0, .ofNat 11), .inr (false, (0, .ofNat 0)))], [], []), ((0, 2, .ofNat 23), (0, 0, .ofNat 0), (0, 0, .ofNat 0)), 0, 0), 
  (46, (4, [(1, .ofNat 0, .ofNat 5), (2, .ofNat 0, .ofNat 5), (3, .ofNat 0, .ofNat 17)], [], [(0, .inl 32), (1, .inl 73), (2, .inr (false, (1, .ofNat 0))), (3, .inr (false, (2, .ofNat 0)))], [], [(32, (0, .ofNat 4), .inl 33), (32, (0, .ofNat 10), .inr (false, (3, .ofNat 0)))], [], []), ((0, 2, .ofNat 5), (0, 0, .ofNat 0), (0, 0, .ofNat 0)), 0, 0)]
set_option maxRecDepth 1000000 in
theorem cv669 {gh : sxGh} (hg : sxGd sxKw gh) : sxCtV sxKw gh ct669 := sxMeB_ok (cts := [ct471]) (cuts := cu669) (sp := []) 123 (by decide +kernel) hg (by decide) (by decide) (List.forall_mem_cons.mpr ⟨cv471 hg, (fun _ h => absurd h List.not_mem_nil)⟩)
/-- LotBeliefs.Course.play -/
def ct670 : sxCt := (2, 4, (3, [(1, .ofNat 0, .ofNat 7), (2, .ofNat 0, .ofNat 5)], [], [(0, .inl 32), (1, .inl 73), (2, .inr (false, (1, .ofNat 0))), (3, .inr (false, (2, .ofNat 0)))], [], [], [], []), [(21, 0), (22, 0), (25, 0), (26, 0), (32, 9), (32, 11), (32, 12), (33000037, 0)], [
  (5, [(3, .ofNat 0, .ofNat 4095), (4, .negSucc 2147483647, .ofNat 2147483647)], [], [], [], [(32, (0, .ofNat 8), .inr (false, (3, .ofNat 0))), (32, (0, .ofNat 11), .inr (false, (4, .ofNat 0)))], [], [])], [], 0, 0)
def cu670 : List sxCu := [
  (9, (4, [(1, .ofNat 0, .ofNat 7), (2, .ofNat 0, .ofNat 5), (3, .ofNat 0, .ofNat 7)], [(2, 3, .ofNat 0), (3, 1, .ofNat 5)], [(0, .inl 32), (1, .inl 73), (2, .inr (false, (1, .ofNat 0))), (3, .inr (false, (2, .ofNat 0))), (4, .inr (false, (3, .ofNat 0)))], [], [], [], []), ((0, 3, .ofNat 7), (0, 0, .ofNat 0), (0, 0, .ofNat 0)), 0, 0)]
set_option maxRecDepth 1000000 in
theorem cv670 {gh : sxGh} (hg : sxGd sxKw gh) : sxCtV sxKw gh ct670 := sxMeB_ok (cts := [ct669, ct471, ct360, ct351, ct505, ct350]) (cuts := cu670) (sp := []) 132 (by decide +kernel) hg (by decide) (by decide) (List.forall_mem_cons.mpr ⟨cv669 hg, (List.forall_mem_cons.mpr ⟨cv471 hg, (List.forall_mem_cons.mpr ⟨cv360 hg, (List.forall_mem_cons.mpr ⟨cv351 hg, (List.forall_mem_cons.mpr ⟨cv505 hg, (List.forall_mem_cons.mpr ⟨cv350 hg, (fun _ h => absurd h List.not_mem_nil)⟩)⟩)⟩)⟩)⟩)⟩)
/-- LotBeliefs.Survey.take -/
def ct671 : sxCt := (69, 5, (2, [(1, .ofNat 0, .ofNat 63)], [], [(0, .inl 70), (1, .inl 3), (2, .inl 23), (3, .inr (false, (1, .ofNat 0))), (4, .inl 32)], [], [], [], []), [(21, 0), (22, 0), (25, 0), (26, 0), (32, 1), (32, 2), (32, 3), (32, 4), (32, 9), (32, 11), (32, 12), (70, 2), (70, 3), (70, 6), (70, 7), (33000037, 0), (71000073, 0)], [
  (3, [(2, .ofNat 0, .ofNat 63)], [(1, 2, .ofNat 0), (2, 1, .ofNat 0)], [], [], [(70, (0, .ofNat 1), .inr (false, (0, .ofNat 1))), (70, (0, .ofNat 2), .inr (false, (2, .ofNat 0)))], [], [])], [], 0, 0)
def cu671 : List sxCu := [
  (115, (7, [(1, .ofNat 0, .ofNat 63), (2, .ofNat 0, .ofNat 7), (3, .negSucc 0, .ofNat 5), (4, .ofNat 0, .ofNat 5040), (5, .ofNat 0, .ofNat 12), (6, .negSucc 2147483647, .ofNat 2147483647)], [(2, 5, .ofNat 0), (5, 2, .ofNat 5)], [(0, .inl 70), (1, .inl 3), (2, .inl 23), (3, .inr (false, (1, .ofNat 0))), (4, .inl 32), (5, .inr (false, (2, .ofNat 0))), (6, .inr (false, (3, .ofNat 0))), (7, .inr (false, (4, .ofNat 0)))], [], [(3, (0, .ofNat 2), .inr (false, (5, .ofNat 0))), (32, (0, .ofNat 0), .inl 3), (32, (0, .ofNat 1), .inl 23), (32, (0, .ofNat 2), .inr (false, (0, .ofNat 3))), (32, (0, .ofNat 3), .inr (false, (1, .ofNat 0))), (70, (0, .ofNat 0), .inr (false, (0, .ofNat 3))), (70, (0, .ofNat 1), .inr (false, (0, .ofNat 1))), (70, (0, .ofNat 2), .inr (false, (1, .ofNat 0))), (70, (0, .ofNat 3), .inl 71), (70, (0, .ofNat 5), .inr (false, (6, .ofNat 0))), (70, (0, .ofNat 7), .inl 73)], [], []), ((0, 4, .ofNat 5040), (0, 0, .ofNat 0), (0, 0, .ofNat 0)), 0, 0), 
  (34, (3, [(1, .ofNat 0, .ofNat 63), (2, .ofNat 0, .ofNat 128)], [], [(0, .inl 70), (1, .inl 3), (2, .inl 23), (3, .inr (false, (1, .ofNat 0))), (4, .inl 32), (5, .inr (false, (2, .ofNat 0)))], [], [(70, (0, .ofNat 1), .inr (false, (0, .ofNat 1))), (70, (0, .ofNat 2), .inr (false, (1, .ofNat 0))), (70, (0, .ofNat 5), .inr (false, (0, .negSucc 0)))], [], []), ((0, 2, .ofNat 5177), (0, 0, .ofNat 0), (0, 0, .ofNat 0)), 0, 0), 
  (75, (5, [(1, .ofNat 0, .ofNat 63), (2, .ofNat 0, .ofNat 7), (3, .ofNat 0, .ofNat 7), (4, .ofNat 0, .ofNat 12)], [(2, 4, .ofNat 0), (4, 2, .ofNat 5)], [(0, .inl 70), (1, .inl 3), (2, .inl 23), (3, .inr (false, (1, .ofNat 0))), (4, .inl 32), (5, .inr (false, (2, .ofNat 0))), (6, .inr (false, (3, .ofNat 0)))], [], [(3, (0, .ofNat 2), .inr (false, (4, .ofNat 0))), (70, (0, .ofNat 1), .inr (false, (0, .ofNat 1))), (70, (0, .ofNat 2), .inr (false, (1, .ofNat 0))), (70, (0, .ofNat 3), .inl 71), (70, (0, .ofNat 5), .inr (false, (0, .negSucc 0))), (70, (0, .ofNat 7), .inl 73)], [], []), ((0, 3, .ofNat 5048), (0, 0, .ofNat 0), (0, 0, .ofNat 0)), 0, 0)]
set_option maxRecDepth 1000000 in
theorem cv671 {gh : sxGh} (hg : sxGd sxKw gh) : sxCtV sxKw gh ct671 := sxMeB_ok (cts := [ct670, ct464, ct667, ct668]) (cuts := cu671) (sp := []) 179 (by decide +kernel) hg (by decide) (by decide) (List.forall_mem_cons.mpr ⟨cv670 hg, (List.forall_mem_cons.mpr ⟨cv464 hg, (List.forall_mem_cons.mpr ⟨cv667 hg, (List.forall_mem_cons.mpr ⟨cv668 hg, (fun _ h => absurd h List.not_mem_nil)⟩)⟩)⟩)⟩)
/-- LotBeliefs.Survey.never -/
def ct672 : sxCt := (76, 0, (2, [(1, .ofNat 0, .ofNat 7)], [], [(0, .inl 70), (1, .inr (false, (1, .ofNat 0)))], [], [], [], []), [], [
  (3, [(2, .ofNat 0, .ofNat 127)], [], [], [.inr (false, (2, .ofNat 0))], [], [], [])], [], 0, 0)
def cu672 : List sxCu := [
  (8, (4, [(1, .ofNat 0, .ofNat 7), (2, .ofNat 0, .ofNat 127), (3, .ofNat 0, .ofNat 128)], [], [(0, .inl 70), (1, .inr (false, (1, .ofNat 0))), (2, .inr (false, (2, .ofNat 0))), (3, .inr (false, (3, .ofNat 0)))], [], [], [], []), ((0, 3, .ofNat 128), (0, 0, .ofNat 0), (0, 0, .ofNat 0)), 0, 0)]
set_option maxRecDepth 1000000 in
theorem cv672 {gh : sxGh} (hg : sxGd sxKw gh) : sxCtV sxKw gh ct672 := sxMeB_ok (cts := []) (cuts := cu672) (sp := []) 90 (by decide +kernel) hg (by decide) (by decide) (fun _ h => absurd h List.not_mem_nil)
/-- LotBeliefsModel.begins -/
def ct673 : sxCt := (259, 0, (2, [(1, .ofNat 0, .ofNat 3)], [], [(0, .inl 78), (1, .inr (false, (1, .ofNat 0)))], [], [], [], []), [(78, 45), (78, 46), (78, 47), (78, 48), (78, 49), (562000566, 0)], [
  (2, [], [], [], [], [(78, (0, .ofNat 44), .inr (false, (0, .ofNat 0))), (78, (0, .ofNat 45), .inr (false, (0, .ofNat 0))), (78, (0, .ofNat 46), .inr (false, (0, .ofNat 0))), (78, (0, .ofNat 47), .inr (false, (0, .ofNat 0))), (78, (0, .ofNat 48), .inr (false, (1, .ofNat 0)))], [], [])], [], 0, 0)
def cu673 : List sxCu := [
  (27, (3, [(1, .ofNat 0, .ofNat 3), (2, .ofNat 0, .ofNat 17)], [], [(0, .inl 78), (1, .inr (false, (1, .ofNat 0))), (2, .inr (false, (2, .ofNat 0)))], [], [(78, (0, .ofNat 44), .inr (false, (0, .ofNat 0))), (78, (0, .ofNat 45), .inr (false, (0, .ofNat 0))), (78, (0, .ofNat 46), .inr (false, (0, .ofNat 0))), (78, (0, .ofNat 47), .inr (false, (0, .ofNat 0))), (78, (0, .ofNat 48), .inr (false, (1, .ofNat 0)))], [], []), ((0, 2, .ofNat 17), (0, 0, .ofNat 0), (0, 0, .ofNat 0)), 0, 0)]
set_option maxRecDepth 1000000 in
theorem cv673 {gh : sxGh} (hg : sxGd sxKw gh) : sxCtV sxKw gh ct673 := sxMeB_ok (cts := []) (cuts := cu673) (sp := []) 108 (by decide +kernel) hg (by decide) (by decide) (fun _ h => absurd h List.not_mem_nil)
/-- LotBeliefs.Survey.always -/
def ct726 : sxCt := (75, 0, (2, [(1, .ofNat 0, .ofNat 7)], [], [(0, .inl 70), (1, .inr (false, (1, .ofNat 0)))], [], [], [], []), [], [
  (3, [(2, .ofNat 0, .ofNat 127)], [], [], [.inr (false, (2, .ofNat 0))], [], [], [])], [], 0, 0)
def cu726 : List sxCu := [
  (8, (4, [(1, .ofNat 0, .ofNat 7), (2, .ofNat 0, .ofNat 127), (3, .ofNat 0, .ofNat 128)], [], [(0, .inl 70), (1, .inr (false, (1, .ofNat 0))), (2, .inr (false, (2, .ofNat 0))), (3, .inr (false, (3, .ofNat 0)))], [], [], [], []), ((0, 3, .ofNat 128), (0, 0, .ofNat 0), (0, 0, .ofNat 0)), 0, 0)]
set_option maxRecDepth 1000000 in
theorem cv726 {gh : sxGh} (hg : sxGd sxKw gh) : sxCtV sxKw gh ct726 := sxMeB_ok (cts := []) (cuts := cu726) (sp := []) 88 (by decide +kernel) hg (by decide) (by decide) (fun _ h => absurd h List.not_mem_nil)
/-- LotBeliefs.Survey.unlike -/
def ct727 : sxCt := (74, 0, (1, [], [], [(0, .inl 70)], [], [], [], []), [], [
  (2, [(1, .ofNat 0, .ofNat 128)], [], [], [.inr (false, (1, .ofNat 0))], [], [], [])], [], 0, 0)
def cu727 : List sxCu := [
  (4, (3, [(1, .ofNat 0, .ofNat 128), (2, .ofNat 0, .ofNat 128)], [(1, 2, .ofNat 0)], [(0, .inl 70), (1, .inr (false, (1, .ofNat 0))), (2, .inr (false, (2, .ofNat 0)))], [], [], [], []), ((0, 2, .ofNat 128), (0, 0, .ofNat 0), (0, 0, .ofNat 0)), 0, 0)]
set_option maxRecDepth 1000000 in
theorem cv727 {gh : sxGh} (hg : sxGd sxKw gh) : sxCtV sxKw gh ct727 := sxMeB_ok (cts := []) (cuts := cu727) (sp := []) 81 (by decide +kernel) hg (by decide) (by decide) (fun _ h => absurd h List.not_mem_nil)
/-- LotBeliefs.Survey.take -/
def ct728 : sxCt := (69, 5, (2, [(1, .ofNat 0, .ofNat 63)], [], [(0, .inl 70), (1, .inl 3), (2, .inl 19), (3, .inr (false, (1, .ofNat 0))), (4, .inl 32)], [], [], [], []), [(21, 0), (22, 0), (25, 0), (26, 0), (32, 1), (32, 2), (32, 3), (32, 4), (32, 9), (32, 11), (32, 12), (70, 2), (70, 3), (70, 6), (70, 7), (33000037, 0), (71000073, 0)], [
  (3, [(2, .ofNat 0, .ofNat 63)], [(1, 2, .ofNat 0), (2, 1, .ofNat 0)], [], [], [(70, (0, .ofNat 1), .inr (false, (0, .ofNat 1))), (70, (0, .ofNat 2), .inr (false, (2, .ofNat 0)))], [], [])], [], 0, 0)
def cu728 : List sxCu := [
  (115, (7, [(1, .ofNat 0, .ofNat 63), (2, .ofNat 0, .ofNat 7), (3, .negSucc 0, .ofNat 5), (4, .ofNat 0, .ofNat 5040), (5, .ofNat 0, .ofNat 12), (6, .negSucc 2147483647, .ofNat 2147483647)], [(2, 5, .ofNat 0), (5, 2, .ofNat 5)], [(0, .inl 70), (1, .inl 3), (2, .inl 19), (3, .inr (false, (1, .ofNat 0))), (4, .inl 32), (5, .inr (false, (2, .ofNat 0))), (6, .inr (false, (3, .ofNat 0))), (7, .inr (false, (4, .ofNat 0)))], [], [(3, (0, .ofNat 2), .inr (false, (5, .ofNat 0))), (32, (0, .ofNat 0), .inl 3), (32, (0, .ofNat 1), .inl 19), (32, (0, .ofNat 2), .inr (false, (0, .ofNat 3))), (32, (0, .ofNat 3), .inr (false, (1, .ofNat 0))), (70, (0, .ofNat 0), .inr (false, (0, .ofNat 3))), (70, (0, .ofNat 1), .inr (false, (0, .ofNat 1))), (70, (0, .ofNat 2), .inr (false, (1, .ofNat 0))), (70, (0, .ofNat 3), .inl 71), (70, (0, .ofNat 5), .inr (false, (6, .ofNat 0))), (70, (0, .ofNat 7), .inl 73)], [], []), ((0, 4, .ofNat 5040), (0, 0, .ofNat 0), (0, 0, .ofNat 0)), 0, 0), 
  (34, (3, [(1, .ofNat 0, .ofNat 63), (2, .ofNat 0, .ofNat 128)], [], [(0, .inl 70), (1, .inl 3), (2, .inl 19), (3, .inr (false, (1, .ofNat 0))), (4, .inl 32), (5, .inr (false, (2, .ofNat 0)))], [], [(70, (0, .ofNat 1), .inr (false, (0, .ofNat 1))), (70, (0, .ofNat 2), .inr (false, (1, .ofNat 0))), (70, (0, .ofNat 5), .inr (false, (0, .negSucc 0)))], [], []), ((0, 2, .ofNat 5177), (0, 0, .ofNat 0), (0, 0, .ofNat 0)), 0, 0), 
  (75, (5, [(1, .ofNat 0, .ofNat 63), (2, .ofNat 0, .ofNat 7), (3, .ofNat 0, .ofNat 7), (4, .ofNat 0, .ofNat 12)], [(2, 4, .ofNat 0), (4, 2, .ofNat 5)], [(0, .inl 70), (1, .inl 3), (2, .inl 19), (3, .inr (false, (1, .ofNat 0))), (4, .inl 32), (5, .inr (false, (2, .ofNat 0))), (6, .inr (false, (3, .ofNat 0)))], [], [(3, (0, .ofNat 2), .inr (false, (4, .ofNat 0))), (70, (0, .ofNat 1), .inr (false, (0, .ofNat 1))), (70, (0, .ofNat 2), .inr (false, (1, .ofNat 0))), (70, (0, .ofNat 3), .inl 71), (70, (0, .ofNat 5), .inr (false, (0, .negSucc 0))), (70, (0, .ofNat 7), .inl 73)], [], []), ((0, 3, .ofNat 5048), (0, 0, .ofNat 0), (0, 0, .ofNat 0)), 0, 0)]
set_option maxRecDepth 1000000 in
theorem cv728 {gh : sxGh} (hg : sxGd sxKw gh) : sxCtV sxKw gh ct728 := sxMeB_ok (cts := [ct670, ct464, ct667, ct668]) (cuts := cu728) (sp := []) 179 (by decide +kernel) hg (by decide) (by decide) (List.forall_mem_cons.mpr ⟨cv670 hg, (List.forall_mem_cons.mpr ⟨cv464 hg, (List.forall_mem_cons.mpr ⟨cv667 hg, (List.forall_mem_cons.mpr ⟨cv668 hg, (fun _ h => absurd h List.not_mem_nil)⟩)⟩)⟩)⟩)
/-- LotBeliefs.Survey.digits -/
def ct758 : sxCt := (71, 0, (2, [(1, .ofNat 0, .ofNat 7)], [], [(0, .inl 66), (1, .inr (false, (1, .ofNat 0)))], [], [], [], []), [], [
  (3, [(2, .negSucc 9223372036854775807, .ofNat 9223372036854775807)], [], [], [.inr (true, (2, .ofNat 0))], [], [], [])], [], 0, 0)
def cu758 : List sxCu := [
  (5, (4, [(1, .ofNat 0, .ofNat 7), (2, .negSucc 9223372036854775807, .ofNat 9223372036854775807), (3, .ofNat 0, .ofNat 7)], [], [(0, .inl 66), (1, .inr (false, (1, .ofNat 0))), (2, .inr (true, (2, .ofNat 0))), (4, .inr (false, (3, .ofNat 0)))], [], [], [], []), ((0, 3, .ofNat 7), (0, 0, .ofNat 0), (0, 0, .ofNat 0)), 0, 0)]
set_option maxRecDepth 1000000 in
theorem cv758 {gh : sxGh} (hg : sxGd sxKw gh) : sxCtV sxKw gh ct758 := sxMeB_ok (cts := []) (cuts := cu758) (sp := []) 81 (by decide +kernel) hg (by decide) (by decide) (fun _ h => absurd h List.not_mem_nil)
/-- LotBeliefs.Survey.note -/
def ct759 : sxCt := (70, 1, (4, [(1, .ofNat 0, .ofNat 4095), (2, .negSucc 2147483647, .ofNat 2147483647), (3, .ofNat 0, .ofNat 7)], [], [(0, .inl 66), (1, .inr (false, (1, .ofNat 0))), (2, .inr (false, (2, .ofNat 0))), (3, .inr (false, (3, .ofNat 0)))], [], [], [], []), [(66, 6), (66, 7), (67, 0), (68, 0)], [
  (5, [(4, .negSucc 2147483647, .ofNat 2147483647)], [(2, 4, .ofNat 0)], [], [], [(66, (0, .ofNat 5), .inr (false, (4, .ofNat 0)))], [], [])], [], 0, 0)
def cu759 : List sxCu := []
set_option maxRecDepth 1000000 in
theorem cv759 {gh : sxGh} (hg : sxGd sxKw gh) : sxCtV sxKw gh ct759 := sxMeB_ok (cts := [ct758]) (cuts := cu759) (sp := []) 141 (by decide +kernel) hg (by decide) (by decide) (List.forall_mem_cons.mpr ⟨cv758 hg, (fun _ h => absurd h List.not_mem_nil)⟩)
/-- LotBeliefs.Survey.advance -/
def ct760 : sxCt := (72, 1, (2, [(1, .ofNat 0, .ofNat 7)], [], [(0, .inl 66), (1, .inr (false, (1, .ofNat 0)))], [], [], [], []), [(69, 0)], [
  (3, [(2, .negSucc 0, .ofNat 5)], [(2, 1, .negSucc 0)], [], [.inr (false, (2, .ofNat 0))], [], [], [])], [], 0, 0)
def cu760 : List sxCu := [
  (4, (3, [(1, .ofNat 0, .ofNat 7), (2, .negSucc 1, .ofNat 5)], [(2, 1, .negSucc 1)], [(0, .inl 66), (1, .inr (false, (1, .ofNat 0))), (2, .inr (false, (2, .ofNat 0)))], [], [], [], []), ((2, 0, .ofNat 15), (0, 0, .ofNat 0), (0, 0, .ofNat 0)), 0, 0), 
  (41, (4, [(1, .ofNat 2, .ofNat 7), (2, .ofNat 0, .ofNat 5), (3, .ofNat 0, .ofNat 6)], [(2, 1, .negSucc 1), (3, 1, .negSucc 0)], [(0, .inl 66), (1, .inr (false, (1, .ofNat 0))), (2, .inr (false, (2, .ofNat 0))), (3, .inr (false, (3, .ofNat 0)))], [], [(66, (0, .ofNat 7), .inl 69)], [], []), ((3, 0, .ofNat 6), (0, 0, .ofNat 0), (0, 0, .ofNat 0)), 0, 0), 
  (83, (6, [(1, .ofNat 2, .ofNat 7), (2, .ofNat 0, .ofNat 5), (3, .ofNat 0, .ofNat 6), (4, .ofNat 1, .ofNat 6), (5, .ofNat 1, .ofNat 6)], [(2, 1, .negSucc 1), (2, 4, .negSucc 0), (2, 5, .negSucc 0), (3, 1, .negSucc 0), (4, 1, .negSucc 0), (5, 1, .negSucc 0)], [(0, .inl 66), (1, .inr (false, (1, .ofNat 0))), (2, .inr (false, (2, .ofNat 0))), (3, .inr (false, (3, .ofNat 0))), (4, .inr (false, (4, .ofNat 0))), (5, .inr (false, (5, .ofNat 0)))], [], [(66, (0, .ofNat 7), .inl 69)], [], []), ((0, 4, .ofNat 6), (0, 0, .ofNat 0), (0, 0, .ofNat 0)), 0, 0)]
set_option maxRecDepth 1000000 in
theorem cv760 {gh : sxGh} (hg : sxGd sxKw gh) : sxCtV sxKw gh ct760 := sxMeB_ok (cts := []) (cuts := cu760) (sp := []) 196 (by decide +kernel) hg (by decide) (by decide) (fun _ h => absurd h List.not_mem_nil)
/-- LotBeliefs.Course.goBack -/
def ct761 : sxCt := (3, 1, (2, [(1, .ofNat 0, .ofNat 5)], [], [(0, .inl 32), (1, .inl 69), (2, .inr (false, (1, .ofNat 0)))], [], [], [], []), [(32, 11), (32, 12), (33000037, 0)], [
  (3, [(2, .ofNat 0, .ofNat 17)], [], [], [], [(32, (0, .ofNat 10), .inr (false, (2, .ofNat 0)))], [], [])], [], 0, 0)
def cu761 : List sxCu := [
  (12, (3, [(1, .ofNat 0, .ofNat 5), (2, .ofNat 0, .ofNat 17)], [], [(0, .inl 32), (1, .inl 69), (2, .inr (false, (1, .ofNat 0))), (3, .inr (false, (2, .ofNat 0)))], [], [(32, (0, .ofNat 10), .inr (false, (0, .ofNat 0))), (32, (0, .ofNat 11), .inr (false, (0, .ofNat 0)))], [], []), ((0, 2, .ofNat 23), (0, 0, .ofNat 0), (0, 0, .ofNat 0)), 0, 0), 
  (46, (4, [(1, .ofNat 0, .ofNat 5), (2, .ofNat 0, .ofNat 5), (3, .ofNat 0, .ofNat 17)], [], [(0, .inl 32), (1, .inl 69), (2, .inr (false, (1, .ofNat 0))), (3, .inr (false, (2, .ofNat 0)))], [], [(32, (0, .ofNat 4), .inl 33), (32, (0, .ofNat 10), .inr (false, (3, .ofNat 0)))], [], []), ((0, 2, .ofNat 5), (0, 0, .ofNat 0), (0, 0, .ofNat 0)), 0, 0)]
set_option maxRecDepth 1000000 in
theorem cv761 {gh : sxGh} (hg : sxGd sxKw gh) : sxCtV sxKw gh ct761 := sxMeB_ok (cts := [ct471]) (cuts := cu761) (sp := []) 123 (by decide +kernel) hg (by decide) (by decide) (List.forall_mem_cons.mpr ⟨cv471 hg, (fun _ h => absurd h List.not_mem_nil)⟩)
/-- LotBeliefs.Course.play -/
def ct762 : sxCt := (2, 4, (3, [(1, .ofNat 0, .ofNat 7), (2, .ofNat 0, .ofNat 5)], [], [(0, .inl 32), (1, .inl 69), (2, .inr (false, (1, .ofNat 0))), (3, .inr (false, (2, .ofNat 0)))], [], [], [], []), [(21, 0), (22, 0), (25, 0), (26, 0), (32, 9), (32, 11), (32, 12), (33000037, 0)], [
  (5, [(3, .ofNat 0, .ofNat 4095), (4, .negSucc 2147483647, .ofNat 2147483647)], [], [], [], [(32, (0, .ofNat 8), .inr (false, (3, .ofNat 0))), (32, (0, .ofNat 11), .inr (false, (4, .ofNat 0)))], [], [])], [], 0, 0)
def cu762 : List sxCu := [
  (9, (4, [(1, .ofNat 0, .ofNat 7), (2, .ofNat 0, .ofNat 5), (3, .ofNat 0, .ofNat 7)], [(2, 3, .ofNat 0), (3, 1, .ofNat 5)], [(0, .inl 32), (1, .inl 69), (2, .inr (false, (1, .ofNat 0))), (3, .inr (false, (2, .ofNat 0))), (4, .inr (false, (3, .ofNat 0)))], [], [], [], []), ((0, 3, .ofNat 7), (0, 0, .ofNat 0), (0, 0, .ofNat 0)), 0, 0)]
set_option maxRecDepth 1000000 in
theorem cv762 {gh : sxGh} (hg : sxGd sxKw gh) : sxCtV sxKw gh ct762 := sxMeB_ok (cts := [ct761, ct471, ct360, ct351, ct505, ct350]) (cuts := cu762) (sp := []) 132 (by decide +kernel) hg (by decide) (by decide) (List.forall_mem_cons.mpr ⟨cv761 hg, (List.forall_mem_cons.mpr ⟨cv471 hg, (List.forall_mem_cons.mpr ⟨cv360 hg, (List.forall_mem_cons.mpr ⟨cv351 hg, (List.forall_mem_cons.mpr ⟨cv505 hg, (List.forall_mem_cons.mpr ⟨cv350 hg, (fun _ h => absurd h List.not_mem_nil)⟩)⟩)⟩)⟩)⟩)⟩)
/-- LotBeliefs.Survey.take -/
def ct763 : sxCt := (69, 5, (2, [(1, .ofNat 0, .ofNat 63)], [], [(0, .inl 66), (1, .inl 3), (2, .inl 23), (3, .inr (false, (1, .ofNat 0))), (4, .inl 32)], [], [], [], []), [(21, 0), (22, 0), (25, 0), (26, 0), (32, 1), (32, 2), (32, 3), (32, 4), (32, 9), (32, 11), (32, 12), (66, 2), (66, 3), (66, 6), (66, 7), (33000037, 0), (67000069, 0)], [
  (3, [(2, .ofNat 0, .ofNat 63)], [(1, 2, .ofNat 0), (2, 1, .ofNat 0)], [], [], [(66, (0, .ofNat 1), .inr (false, (0, .ofNat 1))), (66, (0, .ofNat 2), .inr (false, (2, .ofNat 0)))], [], [])], [], 0, 0)
def cu763 : List sxCu := [
  (115, (7, [(1, .ofNat 0, .ofNat 63), (2, .ofNat 0, .ofNat 7), (3, .negSucc 0, .ofNat 5), (4, .ofNat 0, .ofNat 5040), (5, .ofNat 0, .ofNat 12), (6, .negSucc 2147483647, .ofNat 2147483647)], [(2, 5, .ofNat 0), (5, 2, .ofNat 5)], [(0, .inl 66), (1, .inl 3), (2, .inl 23), (3, .inr (false, (1, .ofNat 0))), (4, .inl 32), (5, .inr (false, (2, .ofNat 0))), (6, .inr (false, (3, .ofNat 0))), (7, .inr (false, (4, .ofNat 0)))], [], [(3, (0, .ofNat 2), .inr (false, (5, .ofNat 0))), (32, (0, .ofNat 0), .inl 3), (32, (0, .ofNat 1), .inl 23), (32, (0, .ofNat 2), .inr (false, (0, .ofNat 2))), (32, (0, .ofNat 3), .inr (false, (1, .ofNat 0))), (66, (0, .ofNat 0), .inr (false, (0, .ofNat 2))), (66, (0, .ofNat 1), .inr (false, (0, .ofNat 1))), (66, (0, .ofNat 2), .inr (false, (1, .ofNat 0))), (66, (0, .ofNat 3), .inl 67), (66, (0, .ofNat 5), .inr (false, (6, .ofNat 0))), (66, (0, .ofNat 7), .inl 69)], [], []), ((0, 4, .ofNat 5040), (0, 0, .ofNat 0), (0, 0, .ofNat 0)), 0, 0), 
  (34, (3, [(1, .ofNat 0, .ofNat 63), (2, .ofNat 0, .ofNat 128)], [], [(0, .inl 66), (1, .inl 3), (2, .inl 23), (3, .inr (false, (1, .ofNat 0))), (4, .inl 32), (5, .inr (false, (2, .ofNat 0)))], [], [(66, (0, .ofNat 1), .inr (false, (0, .ofNat 1))), (66, (0, .ofNat 2), .inr (false, (1, .ofNat 0))), (66, (0, .ofNat 5), .inr (false, (0, .negSucc 0)))], [], []), ((0, 2, .ofNat 5177), (0, 0, .ofNat 0), (0, 0, .ofNat 0)), 0, 0), 
  (75, (5, [(1, .ofNat 0, .ofNat 63), (2, .ofNat 0, .ofNat 7), (3, .ofNat 0, .ofNat 7), (4, .ofNat 0, .ofNat 12)], [(2, 4, .ofNat 0), (4, 2, .ofNat 5)], [(0, .inl 66), (1, .inl 3), (2, .inl 23), (3, .inr (false, (1, .ofNat 0))), (4, .inl 32), (5, .inr (false, (2, .ofNat 0))), (6, .inr (false, (3, .ofNat 0)))], [], [(3, (0, .ofNat 2), .inr (false, (4, .ofNat 0))), (66, (0, .ofNat 1), .inr (false, (0, .ofNat 1))), (66, (0, .ofNat 2), .inr (false, (1, .ofNat 0))), (66, (0, .ofNat 3), .inl 67), (66, (0, .ofNat 5), .inr (false, (0, .negSucc 0))), (66, (0, .ofNat 7), .inl 69)], [], []), ((0, 3, .ofNat 5048), (0, 0, .ofNat 0), (0, 0, .ofNat 0)), 0, 0)]
set_option maxRecDepth 1000000 in
theorem cv763 {gh : sxGh} (hg : sxGd sxKw gh) : sxCtV sxKw gh ct763 := sxMeB_ok (cts := [ct762, ct464, ct759, ct760]) (cuts := cu763) (sp := []) 179 (by decide +kernel) hg (by decide) (by decide) (List.forall_mem_cons.mpr ⟨cv762 hg, (List.forall_mem_cons.mpr ⟨cv464 hg, (List.forall_mem_cons.mpr ⟨cv759 hg, (List.forall_mem_cons.mpr ⟨cv760 hg, (fun _ h => absurd h List.not_mem_nil)⟩)⟩)⟩)⟩)
/-- LotBeliefs.Survey.never -/
def ct764 : sxCt := (76, 0, (2, [(1, .ofNat 0, .ofNat 7)], [], [(0, .inl 66), (1, .inr (false, (1, .ofNat 0)))], [], [], [], []), [], [
  (3, [(2, .ofNat 0, .ofNat 127)], [], [], [.inr (false, (2, .ofNat 0))], [], [], [])], [], 0, 0)
def cu764 : List sxCu := [
  (8, (4, [(1, .ofNat 0, .ofNat 7), (2, .ofNat 0, .ofNat 127), (3, .ofNat 0, .ofNat 128)], [], [(0, .inl 66), (1, .inr (false, (1, .ofNat 0))), (2, .inr (false, (2, .ofNat 0))), (3, .inr (false, (3, .ofNat 0)))], [], [], [], []), ((0, 3, .ofNat 128), (0, 0, .ofNat 0), (0, 0, .ofNat 0)), 0, 0)]
set_option maxRecDepth 1000000 in
theorem cv764 {gh : sxGh} (hg : sxGd sxKw gh) : sxCtV sxKw gh ct764 := sxMeB_ok (cts := []) (cuts := cu764) (sp := []) 90 (by decide +kernel) hg (by decide) (by decide) (fun _ h => absurd h List.not_mem_nil)
/-- LotBeliefsModel.begins -/
def ct765 : sxCt := (259, 0, (2, [(1, .ofNat 0, .ofNat 2)], [], [(0, .inl 78), (1, .inr (false, (1, .ofNat 0)))], [], [], [], []), [(78, 45), (78, 46), (78, 47), (78, 48), (78, 49), (562000566, 0)], [
  (2, [], [], [], [], [(78, (0, .ofNat 44), .inr (false, (0, .ofNat 0))), (78, (0, .ofNat 45), .inr (false, (0, .ofNat 0))), (78, (0, .ofNat 46), .inr (false, (0, .ofNat 0))), (78, (0, .ofNat 47), .inr (false, (0, .ofNat 0))), (78, (0, .ofNat 48), .inr (false, (1, .ofNat 0)))], [], [])], [], 0, 0)
def cu765 : List sxCu := [
  (27, (3, [(1, .ofNat 0, .ofNat 2), (2, .ofNat 0, .ofNat 17)], [], [(0, .inl 78), (1, .inr (false, (1, .ofNat 0))), (2, .inr (false, (2, .ofNat 0)))], [], [(78, (0, .ofNat 44), .inr (false, (0, .ofNat 0))), (78, (0, .ofNat 45), .inr (false, (0, .ofNat 0))), (78, (0, .ofNat 46), .inr (false, (0, .ofNat 0))), (78, (0, .ofNat 47), .inr (false, (0, .ofNat 0))), (78, (0, .ofNat 48), .inr (false, (1, .ofNat 0)))], [], []), ((0, 2, .ofNat 17), (0, 0, .ofNat 0), (0, 0, .ofNat 0)), 0, 0)]
set_option maxRecDepth 1000000 in
theorem cv765 {gh : sxGh} (hg : sxGd sxKw gh) : sxCtV sxKw gh ct765 := sxMeB_ok (cts := []) (cuts := cu765) (sp := []) 108 (by decide +kernel) hg (by decide) (by decide) (fun _ h => absurd h List.not_mem_nil)
/-- LotBeliefs.Survey.always -/
def ct818 : sxCt := (75, 0, (2, [(1, .ofNat 0, .ofNat 7)], [], [(0, .inl 66), (1, .inr (false, (1, .ofNat 0)))], [], [], [], []), [], [
  (3, [(2, .ofNat 0, .ofNat 127)], [], [], [.inr (false, (2, .ofNat 0))], [], [], [])], [], 0, 0)
def cu818 : List sxCu := [
  (8, (4, [(1, .ofNat 0, .ofNat 7), (2, .ofNat 0, .ofNat 127), (3, .ofNat 0, .ofNat 128)], [], [(0, .inl 66), (1, .inr (false, (1, .ofNat 0))), (2, .inr (false, (2, .ofNat 0))), (3, .inr (false, (3, .ofNat 0)))], [], [], [], []), ((0, 3, .ofNat 128), (0, 0, .ofNat 0), (0, 0, .ofNat 0)), 0, 0)]
set_option maxRecDepth 1000000 in
theorem cv818 {gh : sxGh} (hg : sxGd sxKw gh) : sxCtV sxKw gh ct818 := sxMeB_ok (cts := []) (cuts := cu818) (sp := []) 88 (by decide +kernel) hg (by decide) (by decide) (fun _ h => absurd h List.not_mem_nil)
/-- LotBeliefs.Survey.unlike -/
def ct819 : sxCt := (74, 0, (1, [], [], [(0, .inl 66)], [], [], [], []), [], [
  (2, [(1, .ofNat 0, .ofNat 128)], [], [], [.inr (false, (1, .ofNat 0))], [], [], [])], [], 0, 0)
def cu819 : List sxCu := [
  (4, (3, [(1, .ofNat 0, .ofNat 128), (2, .ofNat 0, .ofNat 128)], [(1, 2, .ofNat 0)], [(0, .inl 66), (1, .inr (false, (1, .ofNat 0))), (2, .inr (false, (2, .ofNat 0)))], [], [], [], []), ((0, 2, .ofNat 128), (0, 0, .ofNat 0), (0, 0, .ofNat 0)), 0, 0)]
set_option maxRecDepth 1000000 in
theorem cv819 {gh : sxGh} (hg : sxGd sxKw gh) : sxCtV sxKw gh ct819 := sxMeB_ok (cts := []) (cuts := cu819) (sp := []) 81 (by decide +kernel) hg (by decide) (by decide) (fun _ h => absurd h List.not_mem_nil)
/-- LotBeliefs.Survey.take -/
def ct820 : sxCt := (69, 5, (2, [(1, .ofNat 0, .ofNat 63)], [], [(0, .inl 66), (1, .inl 3), (2, .inl 19), (3, .inr (false, (1, .ofNat 0))), (4, .inl 32)], [], [], [], []), [(21, 0), (22, 0), (25, 0), (26, 0), (32, 1), (32, 2), (32, 3), (32, 4), (32, 9), (32, 11), (32, 12), (66, 2), (66, 3), (66, 6), (66, 7), (33000037, 0), (67000069, 0)], [
  (3, [(2, .ofNat 0, .ofNat 63)], [(1, 2, .ofNat 0), (2, 1, .ofNat 0)], [], [], [(66, (0, .ofNat 1), .inr (false, (0, .ofNat 1))), (66, (0, .ofNat 2), .inr (false, (2, .ofNat 0)))], [], [])], [], 0, 0)
def cu820 : List sxCu := [
  (115, (7, [(1, .ofNat 0, .ofNat 63), (2, .ofNat 0, .ofNat 7), (3, .negSucc 0, .ofNat 5), (4, .ofNat 0, .ofNat 5040), (5, .ofNat 0, .ofNat 12), (6, .negSucc 2147483647, .ofNat 2147483647)], [(2, 5, .ofNat 0), (5, 2, .ofNat 5)], [(0, .inl 66), (1, .inl 3), (2, .inl 19), (3, .inr (false, (1, .ofNat 0))), (4, .inl 32), (5, .inr (false, (2, .ofNat 0))), (6, .inr (false, (3, .ofNat 0))), (7, .inr (false, (4, .ofNat 0)))], [], [(3, (0, .ofNat 2), .inr (false, (5, .ofNat 0))), (32, (0, .ofNat 0), .inl 3), (32, (0, .ofNat 1), .inl 19), (32, (0, .ofNat 2), .inr (false, (0, .ofNat 2))), (32, (0, .ofNat 3), .inr (false, (1, .ofNat 0))), (66, (0, .ofNat 0), .inr (false, (0, .ofNat 2))), (66, (0, .ofNat 1), .inr (false, (0, .ofNat 1))), (66, (0, .ofNat 2), .inr (false, (1, .ofNat 0))), (66, (0, .ofNat 3), .inl 67), (66, (0, .ofNat 5), .inr (false, (6, .ofNat 0))), (66, (0, .ofNat 7), .inl 69)], [], []), ((0, 4, .ofNat 5040), (0, 0, .ofNat 0), (0, 0, .ofNat 0)), 0, 0), 
  (34, (3, [(1, .ofNat 0, .ofNat 63), (2, .ofNat 0, .ofNat 128)], [], [(0, .inl 66), (1, .inl 3), (2, .inl 19), (3, .inr (false, (1, .ofNat 0))), (4, .inl 32), (5, .inr (false, (2, .ofNat 0)))], [], [(66, (0, .ofNat 1), .inr (false, (0, .ofNat 1))), (66, (0, .ofNat 2), .inr (false, (1, .ofNat 0))), (66, (0, .ofNat 5), .inr (false, (0, .negSucc 0)))], [], []), ((0, 2, .ofNat 5177), (0, 0, .ofNat 0), (0, 0, .ofNat 0)), 0, 0), 
  (75, (5, [(1, .ofNat 0, .ofNat 63), (2, .ofNat 0, .ofNat 7), (3, .ofNat 0, .ofNat 7), (4, .ofNat 0, .ofNat 12)], [(2, 4, .ofNat 0), (4, 2, .ofNat 5)], [(0, .inl 66), (1, .inl 3), (2, .inl 19), (3, .inr (false, (1, .ofNat 0))), (4, .inl 32), (5, .inr (false, (2, .ofNat 0))), (6, .inr (false, (3, .ofNat 0)))], [], [(3, (0, .ofNat 2), .inr (false, (4, .ofNat 0))), (66, (0, .ofNat 1), .inr (false, (0, .ofNat 1))), (66, (0, .ofNat 2), .inr (false, (1, .ofNat 0))), (66, (0, .ofNat 3), .inl 67), (66, (0, .ofNat 5), .inr (false, (0, .negSucc 0))), (66, (0, .ofNat 7), .inl 69)], [], []), ((0, 3, .ofNat 5048), (0, 0, .ofNat 0), (0, 0, .ofNat 0)), 0, 0)]
set_option maxRecDepth 1000000 in
theorem cv820 {gh : sxGh} (hg : sxGd sxKw gh) : sxCtV sxKw gh ct820 := sxMeB_ok (cts := [ct762, ct464, ct759, ct760]) (cuts := cu820) (sp := []) 179 (by decide +kernel) hg (by decide) (by decide) (List.forall_mem_cons.mpr ⟨cv762 hg, (List.forall_mem_cons.mpr ⟨cv464 hg, (List.forall_mem_cons.mpr ⟨cv759 hg, (List.forall_mem_cons.mpr ⟨cv760 hg, (fun _ h => absurd h List.not_mem_nil)⟩)⟩)⟩)⟩)
/-- LotBeliefs.Survey.digits -/
def ct850 : sxCt := (71, 0, (2, [(1, .ofNat 0, .ofNat 7)], [], [(0, .inl 62), (1, .inr (false, (1, .ofNat 0)))], [], [], [], []), [], [
  (3, [(2, .negSucc 9223372036854775807, .ofNat 9223372036854775807)], [], [], [.inr (true, (2, .ofNat 0))], [], [], [])], [], 0, 0)
def cu850 : List sxCu := [
  (5, (4, [(1, .ofNat 0, .ofNat 7), (2, .negSucc 9223372036854775807, .ofNat 9223372036854775807), (3, .ofNat 0, .ofNat 7)], [], [(0, .inl 62), (1, .inr (false, (1, .ofNat 0))), (2, .inr (true, (2, .ofNat 0))), (4, .inr (false, (3, .ofNat 0)))], [], [], [], []), ((0, 3, .ofNat 7), (0, 0, .ofNat 0), (0, 0, .ofNat 0)), 0, 0)]
set_option maxRecDepth 1000000 in
theorem cv850 {gh : sxGh} (hg : sxGd sxKw gh) : sxCtV sxKw gh ct850 := sxMeB_ok (cts := []) (cuts := cu850) (sp := []) 81 (by decide +kernel) hg (by decide) (by decide) (fun _ h => absurd h List.not_mem_nil)
/-- LotBeliefs.Survey.note -/
def ct851 : sxCt := (70, 1, (4, [(1, .ofNat 0, .ofNat 4095), (2, .negSucc 2147483647, .ofNat 2147483647), (3, .ofNat 0, .ofNat 7)], [], [(0, .inl 62), (1, .inr (false, (1, .ofNat 0))), (2, .inr (false, (2, .ofNat 0))), (3, .inr (false, (3, .ofNat 0)))], [], [], [], []), [(62, 6), (62, 7), (63, 0), (64, 0)], [
  (5, [(4, .negSucc 2147483647, .ofNat 2147483647)], [(2, 4, .ofNat 0)], [], [], [(62, (0, .ofNat 5), .inr (false, (4, .ofNat 0)))], [], [])], [], 0, 0)
def cu851 : List sxCu := []
set_option maxRecDepth 1000000 in
theorem cv851 {gh : sxGh} (hg : sxGd sxKw gh) : sxCtV sxKw gh ct851 := sxMeB_ok (cts := [ct850]) (cuts := cu851) (sp := []) 141 (by decide +kernel) hg (by decide) (by decide) (List.forall_mem_cons.mpr ⟨cv850 hg, (fun _ h => absurd h List.not_mem_nil)⟩)
/-- LotBeliefs.Survey.advance -/
def ct852 : sxCt := (72, 1, (2, [(1, .ofNat 0, .ofNat 7)], [], [(0, .inl 62), (1, .inr (false, (1, .ofNat 0)))], [], [], [], []), [(65, 0)], [
  (3, [(2, .negSucc 0, .ofNat 5)], [(2, 1, .negSucc 0)], [], [.inr (false, (2, .ofNat 0))], [], [], [])], [], 0, 0)
def cu852 : List sxCu := [
  (4, (3, [(1, .ofNat 0, .ofNat 7), (2, .negSucc 1, .ofNat 5)], [(2, 1, .negSucc 1)], [(0, .inl 62), (1, .inr (false, (1, .ofNat 0))), (2, .inr (false, (2, .ofNat 0)))], [], [], [], []), ((2, 0, .ofNat 15), (0, 0, .ofNat 0), (0, 0, .ofNat 0)), 0, 0), 
  (41, (4, [(1, .ofNat 2, .ofNat 7), (2, .ofNat 0, .ofNat 5), (3, .ofNat 0, .ofNat 6)], [(2, 1, .negSucc 1), (3, 1, .negSucc 0)], [(0, .inl 62), (1, .inr (false, (1, .ofNat 0))), (2, .inr (false, (2, .ofNat 0))), (3, .inr (false, (3, .ofNat 0)))], [], [(62, (0, .ofNat 7), .inl 65)], [], []), ((3, 0, .ofNat 6), (0, 0, .ofNat 0), (0, 0, .ofNat 0)), 0, 0), 
  (83, (6, [(1, .ofNat 2, .ofNat 7), (2, .ofNat 0, .ofNat 5), (3, .ofNat 0, .ofNat 6), (4, .ofNat 1, .ofNat 6), (5, .ofNat 1, .ofNat 6)], [(2, 1, .negSucc 1), (2, 4, .negSucc 0), (2, 5, .negSucc 0), (3, 1, .negSucc 0), (4, 1, .negSucc 0), (5, 1, .negSucc 0)], [(0, .inl 62), (1, .inr (false, (1, .ofNat 0))), (2, .inr (false, (2, .ofNat 0))), (3, .inr (false, (3, .ofNat 0))), (4, .inr (false, (4, .ofNat 0))), (5, .inr (false, (5, .ofNat 0)))], [], [(62, (0, .ofNat 7), .inl 65)], [], []), ((0, 4, .ofNat 6), (0, 0, .ofNat 0), (0, 0, .ofNat 0)), 0, 0)]
set_option maxRecDepth 1000000 in
theorem cv852 {gh : sxGh} (hg : sxGd sxKw gh) : sxCtV sxKw gh ct852 := sxMeB_ok (cts := []) (cuts := cu852) (sp := []) 196 (by decide +kernel) hg (by decide) (by decide) (fun _ h => absurd h List.not_mem_nil)
/-- LotBeliefs.Course.goBack -/
def ct853 : sxCt := (3, 1, (2, [(1, .ofNat 0, .ofNat 5)], [], [(0, .inl 32), (1, .inl 65), (2, .inr (false, (1, .ofNat 0)))], [], [], [], []), [(32, 11), (32, 12), (33000037, 0)], [
  (3, [(2, .ofNat 0, .ofNat 17)], [], [], [], [(32, (0, .ofNat 10), .inr (false, (2, .ofNat 0)))], [], [])], [], 0, 0)
def cu853 : List sxCu := [
  (12, (3, [(1, .ofNat 0, .ofNat 5), (2, .ofNat 0, .ofNat 17)], [], [(0, .inl 32), (1, .inl 65), (2, .inr (false, (1, .ofNat 0))), (3, .inr (false, (2, .ofNat 0)))], [], [(32, (0, .ofNat 10), .inr (false, (0, .ofNat 0))), (32, (0, .ofNat 11), .inr (false, (0, .ofNat 0)))], [], []), ((0, 2, .ofNat 23), (0, 0, .ofNat 0), (0, 0, .ofNat 0)), 0, 0), 
  (46, (4, [(1, .ofNat 0, .ofNat 5), (2, .ofNat 0, .ofNat 5), (3, .ofNat 0, .ofNat 17)], [], [(0, .inl 32), (1, .inl 65), (2, .inr (false, (1, .ofNat 0))), (3, .inr (false, (2, .ofNat 0)))], [], [(32, (0, .ofNat 4), .inl 33), (32, (0, .ofNat 10), .inr (false, (3, .ofNat 0)))], [], []), ((0, 2, .ofNat 5), (0, 0, .ofNat 0), (0, 0, .ofNat 0)), 0, 0)]
set_option maxRecDepth 1000000 in
theorem cv853 {gh : sxGh} (hg : sxGd sxKw gh) : sxCtV sxKw gh ct853 := sxMeB_ok (cts := [ct471]) (cuts := cu853) (sp := []) 123 (by decide +kernel) hg (by decide) (by decide) (List.forall_mem_cons.mpr ⟨cv471 hg, (fun _ h => absurd h List.not_mem_nil)⟩)
/-- LotBeliefs.Course.play -/
def ct854 : sxCt := (2, 4, (3, [(1, .ofNat 0, .ofNat 7), (2, .ofNat 0, .ofNat 5)], [], [(0, .inl 32), (1, .inl 65), (2, .inr (false, (1, .ofNat 0))), (3, .inr (false, (2, .ofNat 0)))], [], [], [], []), [(21, 0), (22, 0), (25, 0), (26, 0), (32, 9), (32, 11), (32, 12), (33000037, 0)], [
  (5, [(3, .ofNat 0, .ofNat 4095), (4, .negSucc 2147483647, .ofNat 2147483647)], [], [], [], [(32, (0, .ofNat 8), .inr (false, (3, .ofNat 0))), (32, (0, .ofNat 11), .inr (false, (4, .ofNat 0)))], [], [])], [], 0, 0)
def cu854 : List sxCu := [
  (9, (4, [(1, .ofNat 0, .ofNat 7), (2, .ofNat 0, .ofNat 5), (3, .ofNat 0, .ofNat 7)], [(2, 3, .ofNat 0), (3, 1, .ofNat 5)], [(0, .inl 32), (1, .inl 65), (2, .inr (false, (1, .ofNat 0))), (3, .inr (false, (2, .ofNat 0))), (4, .inr (false, (3, .ofNat 0)))], [], [], [], []), ((0, 3, .ofNat 7), (0, 0, .ofNat 0), (0, 0, .ofNat 0)), 0, 0)]
set_option maxRecDepth 1000000 in
theorem cv854 {gh : sxGh} (hg : sxGd sxKw gh) : sxCtV sxKw gh ct854 := sxMeB_ok (cts := [ct853, ct471, ct360, ct351, ct505, ct350]) (cuts := cu854) (sp := []) 132 (by decide +kernel) hg (by decide) (by decide) (List.forall_mem_cons.mpr ⟨cv853 hg, (List.forall_mem_cons.mpr ⟨cv471 hg, (List.forall_mem_cons.mpr ⟨cv360 hg, (List.forall_mem_cons.mpr ⟨cv351 hg, (List.forall_mem_cons.mpr ⟨cv505 hg, (List.forall_mem_cons.mpr ⟨cv350 hg, (fun _ h => absurd h List.not_mem_nil)⟩)⟩)⟩)⟩)⟩)⟩)
/-- LotBeliefs.Survey.take -/
def ct855 : sxCt := (69, 5, (2, [(1, .ofNat 0, .ofNat 63)], [], [(0, .inl 62), (1, .inl 3), (2, .inl 23), (3, .inr (false, (1, .ofNat 0))), (4, .inl 32)], [], [], [], []), [(21, 0), (22, 0), (25, 0), (26, 0), (32, 1), (32, 2), (32, 3), (32, 4), (32, 9), (32, 11), (32, 12), (62, 2), (62, 3), (62, 6), (62, 7), (33000037, 0), (63000065, 0)], [
  (3, [(2, .ofNat 0, .ofNat 63)], [(1, 2, .ofNat 0), (2, 1, .ofNat 0)], [], [], [(62, (0, .ofNat 1), .inr (false, (0, .ofNat 1))), (62, (0, .ofNat 2), .inr (false, (2, .ofNat 0)))], [], [])], [], 0, 0)
def cu855 : List sxCu := [
  (115, (7, [(1, .ofNat 0, .ofNat 63), (2, .ofNat 0, .ofNat 7), (3, .negSucc 0, .ofNat 5), (4, .ofNat 0, .ofNat 5040), (5, .ofNat 0, .ofNat 12), (6, .negSucc 2147483647, .ofNat 2147483647)], [(2, 5, .ofNat 0), (5, 2, .ofNat 5)], [(0, .inl 62), (1, .inl 3), (2, .inl 23), (3, .inr (false, (1, .ofNat 0))), (4, .inl 32), (5, .inr (false, (2, .ofNat 0))), (6, .inr (false, (3, .ofNat 0))), (7, .inr (false, (4, .ofNat 0)))], [], [(3, (0, .ofNat 2), .inr (false, (5, .ofNat 0))), (32, (0, .ofNat 0), .inl 3), (32, (0, .ofNat 1), .inl 23), (32, (0, .ofNat 2), .inr (false, (0, .ofNat 1))), (32, (0, .ofNat 3), .inr (false, (1, .ofNat 0))), (62, (0, .ofNat 0), .inr (false, (0, .ofNat 1))), (62, (0, .ofNat 1), .inr (false, (0, .ofNat 1))), (62, (0, .ofNat 2), .inr (false, (1, .ofNat 0))), (62, (0, .ofNat 3), .inl 63), (62, (0, .ofNat 5), .inr (false, (6, .ofNat 0))), (62, (0, .ofNat 7), .inl 65)], [], []), ((0, 4, .ofNat 5040), (0, 0, .ofNat 0), (0, 0, .ofNat 0)), 0, 0), 
  (34, (3, [(1, .ofNat 0, .ofNat 63), (2, .ofNat 0, .ofNat 128)], [], [(0, .inl 62), (1, .inl 3), (2, .inl 23), (3, .inr (false, (1, .ofNat 0))), (4, .inl 32), (5, .inr (false, (2, .ofNat 0)))], [], [(62, (0, .ofNat 1), .inr (false, (0, .ofNat 1))), (62, (0, .ofNat 2), .inr (false, (1, .ofNat 0))), (62, (0, .ofNat 5), .inr (false, (0, .negSucc 0)))], [], []), ((0, 2, .ofNat 5177), (0, 0, .ofNat 0), (0, 0, .ofNat 0)), 0, 0), 
  (75, (5, [(1, .ofNat 0, .ofNat 63), (2, .ofNat 0, .ofNat 7), (3, .ofNat 0, .ofNat 7), (4, .ofNat 0, .ofNat 12)], [(2, 4, .ofNat 0), (4, 2, .ofNat 5)], [(0, .inl 62), (1, .inl 3), (2, .inl 23), (3, .inr (false, (1, .ofNat 0))), (4, .inl 32), (5, .inr (false, (2, .ofNat 0))), (6, .inr (false, (3, .ofNat 0)))], [], [(3, (0, .ofNat 2), .inr (false, (4, .ofNat 0))), (62, (0, .ofNat 1), .inr (false, (0, .ofNat 1))), (62, (0, .ofNat 2), .inr (false, (1, .ofNat 0))), (62, (0, .ofNat 3), .inl 63), (62, (0, .ofNat 5), .inr (false, (0, .negSucc 0))), (62, (0, .ofNat 7), .inl 65)], [], []), ((0, 3, .ofNat 5048), (0, 0, .ofNat 0), (0, 0, .ofNat 0)), 0, 0)]
set_option maxRecDepth 1000000 in
theorem cv855 {gh : sxGh} (hg : sxGd sxKw gh) : sxCtV sxKw gh ct855 := sxMeB_ok (cts := [ct854, ct464, ct851, ct852]) (cuts := cu855) (sp := []) 179 (by decide +kernel) hg (by decide) (by decide) (List.forall_mem_cons.mpr ⟨cv854 hg, (List.forall_mem_cons.mpr ⟨cv464 hg, (List.forall_mem_cons.mpr ⟨cv851 hg, (List.forall_mem_cons.mpr ⟨cv852 hg, (fun _ h => absurd h List.not_mem_nil)⟩)⟩)⟩)⟩)
/-- LotBeliefs.Survey.never -/
def ct856 : sxCt := (76, 0, (2, [(1, .ofNat 0, .ofNat 7)], [], [(0, .inl 62), (1, .inr (false, (1, .ofNat 0)))], [], [], [], []), [], [
  (3, [(2, .ofNat 0, .ofNat 127)], [], [], [.inr (false, (2, .ofNat 0))], [], [], [])], [], 0, 0)
def cu856 : List sxCu := [
  (8, (4, [(1, .ofNat 0, .ofNat 7), (2, .ofNat 0, .ofNat 127), (3, .ofNat 0, .ofNat 128)], [], [(0, .inl 62), (1, .inr (false, (1, .ofNat 0))), (2, .inr (false, (2, .ofNat 0))), (3, .inr (false, (3, .ofNat 0)))], [], [], [], []), ((0, 3, .ofNat 128), (0, 0, .ofNat 0), (0, 0, .ofNat 0)), 0, 0)]
set_option maxRecDepth 1000000 in
theorem cv856 {gh : sxGh} (hg : sxGd sxKw gh) : sxCtV sxKw gh ct856 := sxMeB_ok (cts := []) (cuts := cu856) (sp := []) 90 (by decide +kernel) hg (by decide) (by decide) (fun _ h => absurd h List.not_mem_nil)
/-- LotBeliefsModel.begins -/
def ct857 : sxCt := (259, 0, (2, [(1, .ofNat 0, .ofNat 1)], [], [(0, .inl 78), (1, .inr (false, (1, .ofNat 0)))], [], [], [], []), [(78, 45), (78, 46), (78, 47), (78, 48), (78, 49), (562000566, 0)], [
  (2, [], [], [], [], [(78, (0, .ofNat 44), .inr (false, (0, .ofNat 0))), (78, (0, .ofNat 45), .inr (false, (0, .ofNat 0))), (78, (0, .ofNat 46), .inr (false, (0, .ofNat 0))), (78, (0, .ofNat 47), .inr (false, (0, .ofNat 0))), (78, (0, .ofNat 48), .inr (false, (1, .ofNat 0)))], [], [])], [], 0, 0)
def cu857 : List sxCu := [
  (27, (3, [(1, .ofNat 0, .ofNat 1), (2, .ofNat 0, .ofNat 17)], [], [(0, .inl 78), (1, .inr (false, (1, .ofNat 0))), (2, .inr (false, (2, .ofNat 0)))], [], [(78, (0, .ofNat 44), .inr (false, (0, .ofNat 0))), (78, (0, .ofNat 45), .inr (false, (0, .ofNat 0))), (78, (0, .ofNat 46), .inr (false, (0, .ofNat 0))), (78, (0, .ofNat 47), .inr (false, (0, .ofNat 0))), (78, (0, .ofNat 48), .inr (false, (1, .ofNat 0)))], [], []), ((0, 2, .ofNat 17), (0, 0, .ofNat 0), (0, 0, .ofNat 0)), 0, 0)]
set_option maxRecDepth 1000000 in
theorem cv857 {gh : sxGh} (hg : sxGd sxKw gh) : sxCtV sxKw gh ct857 := sxMeB_ok (cts := []) (cuts := cu857) (sp := []) 108 (by decide +kernel) hg (by decide) (by decide) (fun _ h => absurd h List.not_mem_nil)
/-- LotBeliefs.Survey.always -/
def ct910 : sxCt := (75, 0, (2, [(1, .ofNat 0, .ofNat 7)], [], [(0, .inl 62), (1, .inr (false, (1, .ofNat 0)))], [], [], [], []), [], [
  (3, [(2, .ofNat 0, .ofNat 127)], [], [], [.inr (false, (2, .ofNat 0))], [], [], [])], [], 0, 0)
def cu910 : List sxCu := [
  (8, (4, [(1, .ofNat 0, .ofNat 7), (2, .ofNat 0, .ofNat 127), (3, .ofNat 0, .ofNat 128)], [], [(0, .inl 62), (1, .inr (false, (1, .ofNat 0))), (2, .inr (false, (2, .ofNat 0))), (3, .inr (false, (3, .ofNat 0)))], [], [], [], []), ((0, 3, .ofNat 128), (0, 0, .ofNat 0), (0, 0, .ofNat 0)), 0, 0)]
set_option maxRecDepth 1000000 in
theorem cv910 {gh : sxGh} (hg : sxGd sxKw gh) : sxCtV sxKw gh ct910 := sxMeB_ok (cts := []) (cuts := cu910) (sp := []) 88 (by decide +kernel) hg (by decide) (by decide) (fun _ h => absurd h List.not_mem_nil)
/-- LotBeliefs.Survey.unlike -/
def ct911 : sxCt := (74, 0, (1, [], [], [(0, .inl 62)], [], [], [], []), [], [
  (2, [(1, .ofNat 0, .ofNat 128)], [], [], [.inr (false, (1, .ofNat 0))], [], [], [])], [], 0, 0)
def cu911 : List sxCu := [
  (4, (3, [(1, .ofNat 0, .ofNat 128), (2, .ofNat 0, .ofNat 128)], [(1, 2, .ofNat 0)], [(0, .inl 62), (1, .inr (false, (1, .ofNat 0))), (2, .inr (false, (2, .ofNat 0)))], [], [], [], []), ((0, 2, .ofNat 128), (0, 0, .ofNat 0), (0, 0, .ofNat 0)), 0, 0)]
set_option maxRecDepth 1000000 in
theorem cv911 {gh : sxGh} (hg : sxGd sxKw gh) : sxCtV sxKw gh ct911 := sxMeB_ok (cts := []) (cuts := cu911) (sp := []) 81 (by decide +kernel) hg (by decide) (by decide) (fun _ h => absurd h List.not_mem_nil)
/-- LotBeliefs.Survey.take -/
def ct912 : sxCt := (69, 5, (2, [(1, .ofNat 0, .ofNat 63)], [], [(0, .inl 62), (1, .inl 3), (2, .inl 19), (3, .inr (false, (1, .ofNat 0))), (4, .inl 32)], [], [], [], []), [(21, 0), (22, 0), (25, 0), (26, 0), (32, 1), (32, 2), (32, 3), (32, 4), (32, 9), (32, 11), (32, 12), (62, 2), (62, 3), (62, 6), (62, 7), (33000037, 0), (63000065, 0)], [
  (3, [(2, .ofNat 0, .ofNat 63)], [(1, 2, .ofNat 0), (2, 1, .ofNat 0)], [], [], [(62, (0, .ofNat 1), .inr (false, (0, .ofNat 1))), (62, (0, .ofNat 2), .inr (false, (2, .ofNat 0)))], [], [])], [], 0, 0)
def cu912 : List sxCu := [
  (115, (7, [(1, .ofNat 0, .ofNat 63), (2, .ofNat 0, .ofNat 7), (3, .negSucc 0, .ofNat 5), (4, .ofNat 0, .ofNat 5040), (5, .ofNat 0, .ofNat 12), (6, .negSucc 2147483647, .ofNat 2147483647)], [(2, 5, .ofNat 0), (5, 2, .ofNat 5)], [(0, .inl 62), (1, .inl 3), (2, .inl 19), (3, .inr (false, (1, .ofNat 0))), (4, .inl 32), (5, .inr (false, (2, .ofNat 0))), (6, .inr (false, (3, .ofNat 0))), (7, .inr (false, (4, .ofNat 0)))], [], [(3, (0, .ofNat 2), .inr (false, (5, .ofNat 0))), (32, (0, .ofNat 0), .inl 3), (32, (0, .ofNat 1), .inl 19), (32, (0, .ofNat 2), .inr (false, (0, .ofNat 1))), (32, (0, .ofNat 3), .inr (false, (1, .ofNat 0))), (62, (0, .ofNat 0), .inr (false, (0, .ofNat 1))), (62, (0, .ofNat 1), .inr (false, (0, .ofNat 1))), (62, (0, .ofNat 2), .inr (false, (1, .ofNat 0))), (62, (0, .ofNat 3), .inl 63), (62, (0, .ofNat 5), .inr (false, (6, .ofNat 0))), (62, (0, .ofNat 7), .inl 65)], [], []), ((0, 4, .ofNat 5040), (0, 0, .ofNat 0), (0, 0, .ofNat 0)), 0, 0), 
  (34, (3, [(1, .ofNat 0, .ofNat 63), (2, .ofNat 0, .ofNat 128)], [], [(0, .inl 62), (1, .inl 3), (2, .inl 19), (3, .inr (false, (1, .ofNat 0))), (4, .inl 32), (5, .inr (false, (2, .ofNat 0)))], [], [(62, (0, .ofNat 1), .inr (false, (0, .ofNat 1))), (62, (0, .ofNat 2), .inr (false, (1, .ofNat 0))), (62, (0, .ofNat 5), .inr (false, (0, .negSucc 0)))], [], []), ((0, 2, .ofNat 5177), (0, 0, .ofNat 0), (0, 0, .ofNat 0)), 0, 0), 
  (75, (5, [(1, .ofNat 0, .ofNat 63), (2, .ofNat 0, .ofNat 7), (3, .ofNat 0, .ofNat 7), (4, .ofNat 0, .ofNat 12)], [(2, 4, .ofNat 0), (4, 2, .ofNat 5)], [(0, .inl 62), (1, .inl 3), (2, .inl 19), (3, .inr (false, (1, .ofNat 0))), (4, .inl 32), (5, .inr (false, (2, .ofNat 0))), (6, .inr (false, (3, .ofNat 0)))], [], [(3, (0, .ofNat 2), .inr (false, (4, .ofNat 0))), (62, (0, .ofNat 1), .inr (false, (0, .ofNat 1))), (62, (0, .ofNat 2), .inr (false, (1, .ofNat 0))), (62, (0, .ofNat 3), .inl 63), (62, (0, .ofNat 5), .inr (false, (0, .negSucc 0))), (62, (0, .ofNat 7), .inl 65)], [], []), ((0, 3, .ofNat 5048), (0, 0, .ofNat 0), (0, 0, .ofNat 0)), 0, 0)]
set_option maxRecDepth 1000000 in
theorem cv912 {gh : sxGh} (hg : sxGd sxKw gh) : sxCtV sxKw gh ct912 := sxMeB_ok (cts := [ct854, ct464, ct851, ct852]) (cuts := cu912) (sp := []) 179 (by decide +kernel) hg (by decide) (by decide) (List.forall_mem_cons.mpr ⟨cv854 hg, (List.forall_mem_cons.mpr ⟨cv464 hg, (List.forall_mem_cons.mpr ⟨cv851 hg, (List.forall_mem_cons.mpr ⟨cv852 hg, (fun _ h => absurd h List.not_mem_nil)⟩)⟩)⟩)⟩)
/-- LotBeliefs.Survey.digits -/
def ct942 : sxCt := (71, 0, (2, [(1, .ofNat 0, .ofNat 7)], [], [(0, .inl 58), (1, .inr (false, (1, .ofNat 0)))], [], [], [], []), [], [
  (3, [(2, .negSucc 9223372036854775807, .ofNat 9223372036854775807)], [], [], [.inr (true, (2, .ofNat 0))], [], [], [])], [], 0, 0)
def cu942 : List sxCu := [
  (5, (4, [(1, .ofNat 0, .ofNat 7), (2, .negSucc 9223372036854775807, .ofNat 9223372036854775807), (3, .ofNat 0, .ofNat 7)], [], [(0, .inl 58), (1, .inr (false, (1, .ofNat 0))), (2, .inr (true, (2, .ofNat 0))), (4, .inr (false, (3, .ofNat 0)))], [], [], [], []), ((0, 3, .ofNat 7), (0, 0, .ofNat 0), (0, 0, .ofNat 0)), 0, 0)]
set_option maxRecDepth 1000000 in
theorem cv942 {gh : sxGh} (hg : sxGd sxKw gh) : sxCtV sxKw gh ct942 := sxMeB_ok (cts := []) (cuts := cu942) (sp := []) 81 (by decide +kernel) hg (by decide) (by decide) (fun _ h => absurd h List.not_mem_nil)
/-- LotBeliefs.Survey.note -/
def ct943 : sxCt := (70, 1, (4, [(1, .ofNat 0, .ofNat 4095), (2, .negSucc 2147483647, .ofNat 2147483647), (3, .ofNat 0, .ofNat 7)], [], [(0, .inl 58), (1, .inr (false, (1, .ofNat 0))), (2, .inr (false, (2, .ofNat 0))), (3, .inr (false, (3, .ofNat 0)))], [], [], [], []), [(58, 6), (58, 7), (59, 0), (60, 0)], [
  (5, [(4, .negSucc 2147483647, .ofNat 2147483647)], [(2, 4, .ofNat 0)], [], [], [(58, (0, .ofNat 5), .inr (false, (4, .ofNat 0)))], [], [])], [], 0, 0)
def cu943 : List sxCu := []
set_option maxRecDepth 1000000 in
theorem cv943 {gh : sxGh} (hg : sxGd sxKw gh) : sxCtV sxKw gh ct943 := sxMeB_ok (cts := [ct942]) (cuts := cu943) (sp := []) 141 (by decide +kernel) hg (by decide) (by decide) (List.forall_mem_cons.mpr ⟨cv942 hg, (fun _ h => absurd h List.not_mem_nil)⟩)
/-- LotBeliefs.Survey.advance -/
def ct944 : sxCt := (72, 1, (2, [(1, .ofNat 0, .ofNat 7)], [], [(0, .inl 58), (1, .inr (false, (1, .ofNat 0)))], [], [], [], []), [(61, 0)], [
  (3, [(2, .negSucc 0, .ofNat 5)], [(2, 1, .negSucc 0)], [], [.inr (false, (2, .ofNat 0))], [], [], [])], [], 0, 0)
def cu944 : List sxCu := [
  (4, (3, [(1, .ofNat 0, .ofNat 7), (2, .negSucc 1, .ofNat 5)], [(2, 1, .negSucc 1)], [(0, .inl 58), (1, .inr (false, (1, .ofNat 0))), (2, .inr (false, (2, .ofNat 0)))], [], [], [], []), ((2, 0, .ofNat 15), (0, 0, .ofNat 0), (0, 0, .ofNat 0)), 0, 0), 
  (41, (4, [(1, .ofNat 2, .ofNat 7), (2, .ofNat 0, .ofNat 5), (3, .ofNat 0, .ofNat 6)], [(2, 1, .negSucc 1), (3, 1, .negSucc 0)], [(0, .inl 58), (1, .inr (false, (1, .ofNat 0))), (2, .inr (false, (2, .ofNat 0))), (3, .inr (false, (3, .ofNat 0)))], [], [(58, (0, .ofNat 7), .inl 61)], [], []), ((3, 0, .ofNat 6), (0, 0, .ofNat 0), (0, 0, .ofNat 0)), 0, 0), 
  (83, (6, [(1, .ofNat 2, .ofNat 7), (2, .ofNat 0, .ofNat 5), (3, .ofNat 0, .ofNat 6), (4, .ofNat 1, .ofNat 6), (5, .ofNat 1, .ofNat 6)], [(2, 1, .negSucc 1), (2, 4, .negSucc 0), (2, 5, .negSucc 0), (3, 1, .negSucc 0), (4, 1, .negSucc 0), (5, 1, .negSucc 0)], [(0, .inl 58), (1, .inr (false, (1, .ofNat 0))), (2, .inr (false, (2, .ofNat 0))), (3, .inr (false, (3, .ofNat 0))), (4, .inr (false, (4, .ofNat 0))), (5, .inr (false, (5, .ofNat 0)))], [], [(58, (0, .ofNat 7), .inl 61)], [], []), ((0, 4, .ofNat 6), (0, 0, .ofNat 0), (0, 0, .ofNat 0)), 0, 0)]
set_option maxRecDepth 1000000 in
theorem cv944 {gh : sxGh} (hg : sxGd sxKw gh) : sxCtV sxKw gh ct944 := sxMeB_ok (cts := []) (cuts := cu944) (sp := []) 196 (by decide +kernel) hg (by decide) (by decide) (fun _ h => absurd h List.not_mem_nil)
/-- LotBeliefs.Course.goBack -/
def ct945 : sxCt := (3, 1, (2, [(1, .ofNat 0, .ofNat 5)], [], [(0, .inl 32), (1, .inl 61), (2, .inr (false, (1, .ofNat 0)))], [], [], [], []), [(32, 11), (32, 12), (33000037, 0)], [
  (3, [(2, .ofNat 0, .ofNat 17)], [], [], [], [(32, (0, .ofNat 10), .inr (false, (2, .ofNat 0)))], [], [])], [], 0, 0)
def cu945 : List sxCu := [
  (12, (3, [(1, .ofNat 0, .ofNat 5), (2, .ofNat 0, .ofNat 17)], [], [(0, .inl 32), (1, .inl 61), (2, .inr (false, (1, .ofNat 0))), (3, .inr (false, (2, .ofNat 0)))], [], [(32, (0, .ofNat 10), .inr (false, (0, .ofNat 0))), (32, (0, .ofNat 11), .inr (false, (0, .ofNat 0)))], [], []), ((0, 2, .ofNat 23), (0, 0, .ofNat 0), (0, 0, .ofNat 0)), 0, 0), 
  (46, (4, [(1, .ofNat 0, .ofNat 5), (2, .ofNat 0, .ofNat 5), (3, .ofNat 0, .ofNat 17)], [], [(0, .inl 32), (1, .inl 61), (2, .inr (false, (1, .ofNat 0))), (3, .inr (false, (2, .ofNat 0)))], [], [(32, (0, .ofNat 4), .inl 33), (32, (0, .ofNat 10), .inr (false, (3, .ofNat 0)))], [], []), ((0, 2, .ofNat 5), (0, 0, .ofNat 0), (0, 0, .ofNat 0)), 0, 0)]
set_option maxRecDepth 1000000 in
theorem cv945 {gh : sxGh} (hg : sxGd sxKw gh) : sxCtV sxKw gh ct945 := sxMeB_ok (cts := [ct471]) (cuts := cu945) (sp := []) 123 (by decide +kernel) hg (by decide) (by decide) (List.forall_mem_cons.mpr ⟨cv471 hg, (fun _ h => absurd h List.not_mem_nil)⟩)
/-- LotBeliefs.Course.play -/
def ct946 : sxCt := (2, 4, (3, [(1, .ofNat 0, .ofNat 7), (2, .ofNat 0, .ofNat 5)], [], [(0, .inl 32), (1, .inl 61), (2, .inr (false, (1, .ofNat 0))), (3, .inr (false, (2, .ofNat 0)))], [], [], [], []), [(21, 0), (22, 0), (25, 0), (26, 0), (32, 9), (32, 11), (32, 12), (33000037, 0)], [
  (5, [(3, .ofNat 0, .ofNat 4095), (4, .negSucc 2147483647, .ofNat 2147483647)], [], [], [], [(32, (0, .ofNat 8), .inr (false, (3, .ofNat 0))), (32, (0, .ofNat 11), .inr (false, (4, .ofNat 0)))], [], [])], [], 0, 0)
def cu946 : List sxCu := [
  (9, (4, [(1, .ofNat 0, .ofNat 7), (2, .ofNat 0, .ofNat 5), (3, .ofNat 0, .ofNat 7)], [(2, 3, .ofNat 0), (3, 1, .ofNat 5)], [(0, .inl 32), (1, .inl 61), (2, .inr (false, (1, .ofNat 0))), (3, .inr (false, (2, .ofNat 0))), (4, .inr (false, (3, .ofNat 0)))], [], [], [], []), ((0, 3, .ofNat 7), (0, 0, .ofNat 0), (0, 0, .ofNat 0)), 0, 0)]
set_option maxRecDepth 1000000 in
theorem cv946 {gh : sxGh} (hg : sxGd sxKw gh) : sxCtV sxKw gh ct946 := sxMeB_ok (cts := [ct945, ct471, ct360, ct351, ct505, ct350]) (cuts := cu946) (sp := []) 132 (by decide +kernel) hg (by decide) (by decide) (List.forall_mem_cons.mpr ⟨cv945 hg, (List.forall_mem_cons.mpr ⟨cv471 hg, (List.forall_mem_cons.mpr ⟨cv360 hg, (List.forall_mem_cons.mpr ⟨cv351 hg, (List.forall_mem_cons.mpr ⟨cv505 hg, (List.forall_mem_cons.mpr ⟨cv350 hg, (fun _ h => absurd h List.not_mem_nil)⟩)⟩)⟩)⟩)⟩)⟩)
/-- LotBeliefs.Survey.take -/
def ct947 : sxCt := (69, 5, (2, [(1, .ofNat 0, .ofNat 63)], [], [(0, .inl 58), (1, .inl 3), (2, .inl 23), (3, .inr (false, (1, .ofNat 0))), (4, .inl 32)], [], [], [], []), [(21, 0), (22, 0), (25, 0), (26, 0), (32, 1), (32, 2), (32, 3), (32, 4), (32, 9), (32, 11), (32, 12), (58, 2), (58, 3), (58, 6), (58, 7), (33000037, 0), (59000061, 0)], [
  (3, [(2, .ofNat 0, .ofNat 63)], [(1, 2, .ofNat 0), (2, 1, .ofNat 0)], [], [], [(58, (0, .ofNat 1), .inr (false, (0, .ofNat 1))), (58, (0, .ofNat 2), .inr (false, (2, .ofNat 0)))], [], [])], [], 0, 0)
def cu947 : List sxCu := [
  (115, (7, [(1, .ofNat 0, .ofNat 63), (2, .ofNat 0, .ofNat 7), (3, .negSucc 0, .ofNat 5), (4, .ofNat 0, .ofNat 5040), (5, .ofNat 0, .ofNat 12), (6, .negSucc 2147483647, .ofNat 2147483647)], [(2, 5, .ofNat 0), (5, 2, .ofNat 5)], [(0, .inl 58), (1, .inl 3), (2, .inl 23), (3, .inr (false, (1, .ofNat 0))), (4, .inl 32), (5, .inr (false, (2, .ofNat 0))), (6, .inr (false, (3, .ofNat 0))), (7, .inr (false, (4, .ofNat 0)))], [], [(3, (0, .ofNat 2), .inr (false, (5, .ofNat 0))), (32, (0, .ofNat 0), .inl 3), (32, (0, .ofNat 1), .inl 23), (32, (0, .ofNat 2), .inr (false, (0, .ofNat 0))), (32, (0, .ofNat 3), .inr (false, (1, .ofNat 0))), (58, (0, .ofNat 0), .inr (false, (0, .ofNat 0))), (58, (0, .ofNat 1), .inr (false, (0, .ofNat 1))), (58, (0, .ofNat 2), .inr (false, (1, .ofNat 0))), (58, (0, .ofNat 3), .inl 59), (58, (0, .ofNat 5), .inr (false, (6, .ofNat 0))), (58, (0, .ofNat 7), .inl 61)], [], []), ((0, 4, .ofNat 5040), (0, 0, .ofNat 0), (0, 0, .ofNat 0)), 0, 0), 
  (34, (3, [(1, .ofNat 0, .ofNat 63), (2, .ofNat 0, .ofNat 128)], [], [(0, .inl 58), (1, .inl 3), (2, .inl 23), (3, .inr (false, (1, .ofNat 0))), (4, .inl 32), (5, .inr (false, (2, .ofNat 0)))], [], [(58, (0, .ofNat 1), .inr (false, (0, .ofNat 1))), (58, (0, .ofNat 2), .inr (false, (1, .ofNat 0))), (58, (0, .ofNat 5), .inr (false, (0, .negSucc 0)))], [], []), ((0, 2, .ofNat 5177), (0, 0, .ofNat 0), (0, 0, .ofNat 0)), 0, 0), 
  (75, (5, [(1, .ofNat 0, .ofNat 63), (2, .ofNat 0, .ofNat 7), (3, .ofNat 0, .ofNat 7), (4, .ofNat 0, .ofNat 12)], [(2, 4, .ofNat 0), (4, 2, .ofNat 5)], [(0, .inl 58), (1, .inl 3), (2, .inl 23), (3, .inr (false, (1, .ofNat 0))), (4, .inl 32), (5, .inr (false, (2, .ofNat 0))), (6, .inr (false, (3, .ofNat 0)))], [], [(3, (0, .ofNat 2), .inr (false, (4, .ofNat 0))), (58, (0, .ofNat 1), .inr (false, (0, .ofNat 1))), (58, (0, .ofNat 2), .inr (false, (1, .ofNat 0))), (58, (0, .ofNat 3), .inl 59), (58, (0, .ofNat 5), .inr (false, (0, .negSucc 0))), (58, (0, .ofNat 7), .inl 61)], [], []), ((0, 3, .ofNat 5048), (0, 0, .ofNat 0), (0, 0, .ofNat 0)), 0, 0)]
set_option maxRecDepth 1000000 in
theorem cv947 {gh : sxGh} (hg : sxGd sxKw gh) : sxCtV sxKw gh ct947 := sxMeB_ok (cts := [ct946, ct464, ct943, ct944]) (cuts := cu947) (sp := []) 179 (by decide +kernel) hg (by decide) (by decide) (List.forall_mem_cons.mpr ⟨cv946 hg, (List.forall_mem_cons.mpr ⟨cv464 hg, (List.forall_mem_cons.mpr ⟨cv943 hg, (List.forall_mem_cons.mpr ⟨cv944 hg, (fun _ h => absurd h List.not_mem_nil)⟩)⟩)⟩)⟩)
/-- LotBeliefs.Survey.never -/
def ct948 : sxCt := (76, 0, (2, [(1, .ofNat 0, .ofNat 7)], [], [(0, .inl 58), (1, .inr (false, (1, .ofNat 0)))], [], [], [], []), [], [
  (3, [(2, .ofNat 0, .ofNat 127)], [], [], [.inr (false, (2, .ofNat 0))], [], [], [])], [], 0, 0)
def cu948 : List sxCu := [
  (8, (4, [(1, .ofNat 0, .ofNat 7), (2, .ofNat 0, .ofNat 127), (3, .ofNat 0, .ofNat 128)], [], [(0, .inl 58), (1, .inr (false, (1, .ofNat 0))), (2, .inr (false, (2, .ofNat 0))), (3, .inr (false, (3, .ofNat 0)))], [], [], [], []), ((0, 3, .ofNat 128), (0, 0, .ofNat 0), (0, 0, .ofNat 0)), 0, 0)]
set_option maxRecDepth 1000000 in
theorem cv948 {gh : sxGh} (hg : sxGd sxKw gh) : sxCtV sxKw gh ct948 := sxMeB_ok (cts := []) (cuts := cu948) (sp := []) 90 (by decide +kernel) hg (by decide) (by decide) (fun _ h => absurd h List.not_mem_nil)
/-- LotBeliefs.Survey.always -/
def ct949 : sxCt := (75, 0, (2, [(1, .ofNat 0, .ofNat 7)], [], [(0, .inl 58), (1, .inr (false, (1, .ofNat 0)))], [], [], [], []), [], [
  (3, [(2, .ofNat 0, .ofNat 127)], [], [], [.inr (false, (2, .ofNat 0))], [], [], [])], [], 0, 0)
def cu949 : List sxCu := [
  (8, (4, [(1, .ofNat 0, .ofNat 7), (2, .ofNat 0, .ofNat 127), (3, .ofNat 0, .ofNat 128)], [], [(0, .inl 58), (1, .inr (false, (1, .ofNat 0))), (2, .inr (false, (2, .ofNat 0))), (3, .inr (false, (3, .ofNat 0)))], [], [], [], []), ((0, 3, .ofNat 128), (0, 0, .ofNat 0), (0, 0, .ofNat 0)), 0, 0)]
set_option maxRecDepth 1000000 in
theorem cv949 {gh : sxGh} (hg : sxGd sxKw gh) : sxCtV sxKw gh ct949 := sxMeB_ok (cts := []) (cuts := cu949) (sp := []) 88 (by decide +kernel) hg (by decide) (by decide) (fun _ h => absurd h List.not_mem_nil)
/-- LotBeliefs.Survey.unlike -/
def ct950 : sxCt := (74, 0, (1, [], [], [(0, .inl 58)], [], [], [], []), [], [
  (2, [(1, .ofNat 0, .ofNat 128)], [], [], [.inr (false, (1, .ofNat 0))], [], [], [])], [], 0, 0)
def cu950 : List sxCu := [
  (4, (3, [(1, .ofNat 0, .ofNat 128), (2, .ofNat 0, .ofNat 128)], [(1, 2, .ofNat 0)], [(0, .inl 58), (1, .inr (false, (1, .ofNat 0))), (2, .inr (false, (2, .ofNat 0)))], [], [], [], []), ((0, 2, .ofNat 128), (0, 0, .ofNat 0), (0, 0, .ofNat 0)), 0, 0)]
set_option maxRecDepth 1000000 in
theorem cv950 {gh : sxGh} (hg : sxGd sxKw gh) : sxCtV sxKw gh ct950 := sxMeB_ok (cts := []) (cuts := cu950) (sp := []) 81 (by decide +kernel) hg (by decide) (by decide) (fun _ h => absurd h List.not_mem_nil)
/-- LotBeliefs.Survey.take -/
def ct951 : sxCt := (69, 5, (2, [(1, .ofNat 0, .ofNat 63)], [], [(0, .inl 58), (1, .inl 3), (2, .inl 19), (3, .inr (false, (1, .ofNat 0))), (4, .inl 32)], [], [], [], []), [(21, 0), (22, 0), (25, 0), (26, 0), (32, 1), (32, 2), (32, 3), (32, 4), (32, 9), (32, 11), (32, 12), (58, 2), (58, 3), (58, 6), (58, 7), (33000037, 0), (59000061, 0)], [
  (3, [(2, .ofNat 0, .ofNat 63)], [(1, 2, .ofNat 0), (2, 1, .ofNat 0)], [], [], [(58, (0, .ofNat 1), .inr (false, (0, .ofNat 1))), (58, (0, .ofNat 2), .inr (false, (2, .ofNat 0)))], [], [])], [], 0, 0)
def cu951 : List sxCu := [
  (115, (7, [(1, .ofNat 0, .ofNat 63), (2, .ofNat 0, .ofNat 7), (3, .negSucc 0, .ofNat 5), (4, .ofNat 0, .ofNat 5040), (5, .ofNat 0, .ofNat 12), (6, .negSucc 2147483647, .ofNat 2147483647)], [(2, 5, .ofNat 0), (5, 2, .ofNat 5)], [(0, .inl 58), (1, .inl 3), (2, .inl 19), (3, .inr (false, (1, .ofNat 0))), (4, .inl 32), (5, .inr (false, (2, .ofNat 0))), (6, .inr (false, (3, .ofNat 0))), (7, .inr (false, (4, .ofNat 0)))], [], [(3, (0, .ofNat 2), .inr (false, (5, .ofNat 0))), (32, (0, .ofNat 0), .inl 3), (32, (0, .ofNat 1), .inl 19), (32, (0, .ofNat 2), .inr (false, (0, .ofNat 0))), (32, (0, .ofNat 3), .inr (false, (1, .ofNat 0))), (58, (0, .ofNat 0), .inr (false, (0, .ofNat 0))), (58, (0, .ofNat 1), .inr (false, (0, .ofNat 1))), (58, (0, .ofNat 2), .inr (false, (1, .ofNat 0))), (58, (0, .ofNat 3), .inl 59), (58, (0, .ofNat 5), .inr (false, (6, .ofNat 0))), (58, (0, .ofNat 7), .inl 61)], [], []), ((0, 4, .ofNat 5040), (0, 0, .ofNat 0), (0, 0, .ofNat 0)), 0, 0), 
  (34, (3, [(1, .ofNat 0, .ofNat 63), (2, .ofNat 0, .ofNat 128)], [], [(0, .inl 58), (1, .inl 3), (2, .inl 19), (3, .inr (false, (1, .ofNat 0))), (4, .inl 32), (5, .inr (false, (2, .ofNat 0)))], [], [(58, (0, .ofNat 1), .inr (false, (0, .ofNat 1))), (58, (0, .ofNat 2), .inr (false, (1, .ofNat 0))), (58, (0, .ofNat 5), .inr (false, (0, .negSucc 0)))], [], []), ((0, 2, .ofNat 5177), (0, 0, .ofNat 0), (0, 0, .ofNat 0)), 0, 0), 
  (75, (5, [(1, .ofNat 0, .ofNat 63), (2, .ofNat 0, .ofNat 7), (3, .ofNat 0, .ofNat 7), (4, .ofNat 0, .ofNat 12)], [(2, 4, .ofNat 0), (4, 2, .ofNat 5)], [(0, .inl 58), (1, .inl 3), (2, .inl 19), (3, .inr (false, (1, .ofNat 0))), (4, .inl 32), (5, .inr (false, (2, .ofNat 0))), (6, .inr (false, (3, .ofNat 0)))], [], [(3, (0, .ofNat 2), .inr (false, (4, .ofNat 0))), (58, (0, .ofNat 1), .inr (false, (0, .ofNat 1))), (58, (0, .ofNat 2), .inr (false, (1, .ofNat 0))), (58, (0, .ofNat 3), .inl 59), (58, (0, .ofNat 5), .inr (false, (0, .negSucc 0))), (58, (0, .ofNat 7), .inl 61)], [], []), ((0, 3, .ofNat 5048), (0, 0, .ofNat 0), (0, 0, .ofNat 0)), 0, 0)]
set_option maxRecDepth 1000000 in
theorem cv951 {gh : sxGh} (hg : sxGd sxKw gh) : sxCtV sxKw gh ct951 := sxMeB_ok (cts := [ct946, ct464, ct943, ct944]) (cuts := cu951) (sp := []) 179 (by decide +kernel) hg (by decide) (by decide) (List.forall_mem_cons.mpr ⟨cv946 hg, (List.forall_mem_cons.mpr ⟨cv464 hg, (List.forall_mem_cons.mpr ⟨cv943 hg, (List.forall_mem_cons.mpr ⟨cv944 hg, (fun _ h => absurd h List.not_mem_nil)⟩)⟩)⟩)⟩)
end SXC
