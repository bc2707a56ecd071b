/-! SX: contracts, by program -/
section SXC
/-- LotBeliefsModel.ones -/
def ct0 : sxCt := (225, 0, (2, [(1, .negSucc 9223372036854775807, .ofNat 9223372036854775807)], [], [(0, .inr (true, (1, .ofNat 0)))], [], [], [], []), [], [
  (3, [(2, .negSucc 2147483647, .ofNat 2147483647)], [], [], [.inr (false, (2, .ofNat 0))], [], [], [])], [], 0, 0)
def cu0 : List sxCu := [
  (4, (4, [(1, .negSucc 9223372036854775807, .ofNat 9223372036854775807), (2, .negSucc 2147483647, .ofNat 2147483647), (3, .ofNat 0, .ofNat 64)], [], [(0, .inr (true, (1, .ofNat 0))), (2, .inr (false, (2, .ofNat 0))), (3, .inr (false, (3, .ofNat 0)))], [], [], [], []), ((0, 3, .ofNat 64), (0, 0, .ofNat 0), (0, 0, .ofNat 0)), 0, 0)]
set_option maxRecDepth 1000000 in
theorem cv0 {gh : sxGh} (hg : sxGd sxKw gh) : sxCtV sxKw gh ct0 := sxMeB_ok (cts := []) (cuts := cu0) (sp := []) 80 (by decide +kernel) hg (by decide) (by decide) (fun _ h => absurd h List.not_mem_nil)
/-- LotBeliefsModel.valueOf -/
def ct1 : sxCt := (237, 1, (2, [(1, .ofNat 0, .ofNat 999)], [], [(0, .inl 78), (1, .inr (false, (1, .ofNat 0)))], [], [], [], []), [], [
  (3, [(2, .negSucc 2147483647, .ofNat 2147483647)], [], [], [.inr (false, (2, .ofNat 0))], [], [], [])], [], 0, 0)
def cu1 : List sxCu := []
set_option maxRecDepth 1000000 in
theorem cv1 {gh : sxGh} (hg : sxGd sxKw gh) : sxCtV sxKw gh ct1 := sxMeB_ok (cts := [ct0]) (cuts := cu1) (sp := []) 140 (by decide +kernel) hg (by decide) (by decide) (List.forall_mem_cons.mpr ⟨cv0 hg, (fun _ h => absurd h List.not_mem_nil)⟩)
/-- LotBeliefs.Tape.step -/
def ct2 : sxCt := (83, 0, (1, [], [], [(0, .inl 1)], [], [], [], []), [(1, 4), (1, 5), (1, 6), (1, 7)], [
  (2, [(1, .ofNat 0, .ofNat 4)], [], [], [], [(1, (0, .ofNat 3), .inr (false, (1, .ofNat 0)))], [], [])], [], 0, 0)
def cu2 : List sxCu := [
  (109, (6, [(1, .ofNat 0, .ofNat 600), (2, .ofNat 1, .ofNat 600), (3, .ofNat 0, .ofNat 599), (4, .ofNat 0, .ofNat 599), (5, .ofNat 97, .ofNat 122)], [(3, 1, .ofNat 0), (3, 2, .negSucc 0), (4, 1, .ofNat 0), (4, 2, .negSucc 0), (4, 3, .ofNat 0)], [(0, .inl 1), (1, .inr (false, (1, .ofNat 0)))], [], [(1, (0, .ofNat 0), .inl 2), (1, (0, .ofNat 2), .inr (false, (2, .ofNat 0))), (1, (0, .ofNat 3), .inr (false, (0, .ofNat 1))), (1, (0, .ofNat 4), .inr (false, (3, .ofNat 0))), (1, (0, .ofNat 5), .inr (false, (4, .ofNat 0))), (1, (0, .ofNat 6), .inr (false, (5, .ofNat 0)))], [], []), ((0, 1, .ofNat 1201), (0, 0, .ofNat 0), (0, 0, .ofNat 0)), 0, 0), 
  (14, (4, [(1, .ofNat 0, .ofNat 600), (2, .ofNat 0, .ofNat 3), (3, .ofNat 0, .ofNat 600)], [(3, 1, .ofNat 0)], [(0, .inl 1), (1, .inr (false, (1, .ofNat 0)))], [], [(1, (0, .ofNat 3), .inr (false, (2, .ofNat 0))), (1, (0, .ofNat 5), .inr (false, (3, .ofNat 0)))], [], []), ((0, 1, .ofNat 1802), (0, 0, .ofNat 0), (0, 0, .ofNat 0)), 0, 0), 
  (173, (6, [(1, .ofNat 0, .ofNat 600), (2, .ofNat 1, .ofNat 600), (3, .ofNat 0, .ofNat 599), (4, .ofNat 0, .ofNat 599), (5, .ofNat 0, .ofNat 1000000)], [(3, 1, .ofNat 0), (3, 2, .negSucc 0), (4, 1, .ofNat 0), (4, 2, .negSucc 0), (4, 3, .ofNat 0)], [(0, .inl 1), (1, .inr (false, (1, .ofNat 0)))], [], [(1, (0, .ofNat 0), .inl 2), (1, (0, .ofNat 2), .inr (false, (2, .ofNat 0))), (1, (0, .ofNat 3), .inr (false, (0, .ofNat 2))), (1, (0, .ofNat 4), .inr (false, (3, .ofNat 0))), (1, (0, .ofNat 5), .inr (false, (4, .ofNat 0))), (1, (0, .ofNat 6), .inr (false, (5, .ofNat 0)))], [], []), ((0, 1, .ofNat 600), (0, 0, .ofNat 0), (0, 0, .ofNat 0)), 0, 0)]
set_option maxRecDepth 1000000 in
theorem cv2 {gh : sxGh} (hg : sxGd sxKw gh) : sxCtV sxKw gh ct2 := sxMeB_ok (cts := []) (cuts := cu2) (sp := []) 257 (by decide +kernel) hg (by decide) (by decide) (fun _ h => absurd h List.not_mem_nil)
/-- LotBeliefs.Tape.isWord -/
def ct3 : sxCt := (85, 0, (1, [], [], [(0, .inl 1), (1, .inl 1000012)], [], [], [], []), [], [
  (1, [], [], [], [.inr (false, (0, .ofNat 0))], [], [], []), 
  (1, [], [], [], [.inr (false, (0, .ofNat 1))], [], [], [])], [], 0, 0)
def cu3 : List sxCu := []
set_option maxRecDepth 1000000 in
theorem cv3 {gh : sxGh} (hg : sxGd sxKw gh) : sxCtV sxKw gh ct3 := sxMeB_ok (cts := []) (cuts := cu3) (sp := []) 204 (by decide +kernel) hg (by decide) (by decide) (fun _ h => absurd h List.not_mem_nil)
/-- LotBeliefs.Tape.isWord -/
def ct4 : sxCt := (85, 0, (1, [], [], [(0, .inl 1), (1, .inl 1000015)], [], [], [], []), [], [
  (1, [], [], [], [.inr (false, (0, .ofNat 0))], [], [], []), 
  (1, [], [], [], [.inr (false, (0, .ofNat 1))], [], [], [])], [], 0, 0)
def cu4 : List sxCu := []
set_option maxRecDepth 1000000 in
theorem cv4 {gh : sxGh} (hg : sxGd sxKw gh) : sxCtV sxKw gh ct4 := sxMeB_ok (cts := []) (cuts := cu4) (sp := []) 174 (by decide +kernel) hg (by decide) (by decide) (fun _ h => absurd h List.not_mem_nil)
/-- LotBeliefs.Tape.isWord -/
def ct5 : sxCt := (85, 0, (1, [], [], [(0, .inl 1), (1, .inl 1000016)], [], [], [], []), [], [
  (1, [], [], [], [.inr (false, (0, .ofNat 0))], [], [], []), 
  (1, [], [], [], [.inr (false, (0, .ofNat 1))], [], [], [])], [], 0, 0)
def cu5 : List sxCu := []
set_option maxRecDepth 1000000 in
theorem cv5 {gh : sxGh} (hg : sxGd sxKw gh) : sxCtV sxKw gh ct5 := sxMeB_ok (cts := []) (cuts := cu5) (sp := []) 174 (by decide +kernel) hg (by decide) (by decide) (fun _ h => absurd h List.not_mem_nil)
/-- LotBeliefs.Tape.isWord -/
def ct6 : sxCt := (85, 0, (1, [], [], [(0, .inl 1), (1, .inl 1000017)], [], [], [], []), [], [
  (1, [], [], [], [.inr (false, (0, .ofNat 0))], [], [], []), 
  (1, [], [], [], [.inr (false, (0, .ofNat 1))], [], [], [])], [], 0, 0)
def cu6 : List sxCu := []
set_option maxRecDepth 1000000 in
theorem cv6 {gh : sxGh} (hg : sxGd sxKw gh) : sxCtV sxKw gh ct6 := sxMeB_ok (cts := []) (cuts := cu6) (sp := []) 234 (by decide +kernel) hg (by decide) (by decide) (fun _ h => absurd h List.not_mem_nil)
/-- LotBeliefs.Tape.isWord -/
def ct7 : sxCt := (85, 0, (1, [], [], [(0, .inl 1), (1, .inl 1000018)], [], [], [], []), [], [
  (1, [], [], [], [.inr (false, (0, .ofNat 0))], [], [], []), 
  (1, [], [], [], [.inr (false, (0, .ofNat 1))], [], [], [])], [], 0, 0)
def cu7 : List sxCu := []
set_option maxRecDepth 1000000 in
theorem cv7 {gh : sxGh} (hg : sxGd sxKw gh) : sxCtV sxKw gh ct7 := sxMeB_ok (cts := []) (cuts := cu7) (sp := []) 204 (by decide +kernel) hg (by decide) (by decide) (fun _ h => absurd h List.not_mem_nil)
/-- LotBeliefs.Tape.isWord -/
def ct8 : sxCt := (85, 0, (1, [], [], [(0, .inl 1), (1, .inl 1000019)], [], [], [], []), [], [
  (1, [], [], [], [.inr (false, (0, .ofNat 0))], [], [], []), 
  (1, [], [], [], [.inr (false, (0, .ofNat 1))], [], [], [])], [], 0, 0)
def cu8 : List sxCu := []
set_option maxRecDepth 1000000 in
theorem cv8 {gh : sxGh} (hg : sxGd sxKw gh) : sxCtV sxKw gh ct8 := sxMeB_ok (cts := []) (cuts := cu8) (sp := []) 204 (by decide +kernel) hg (by decide) (by decide) (fun _ h => absurd h List.not_mem_nil)
/-- LotBeliefs.Tape.isWord -/
def ct9 : sxCt := (85, 0, (1, [], [], [(0, .inl 1), (1, .inl 1000020)], [], [], [], []), [], [
  (1, [], [], [], [.inr (false, (0, .ofNat 0))], [], [], []), 
  (1, [], [], [], [.inr (false, (0, .ofNat 1))], [], [], [])], [], 0, 0)
def cu9 : List sxCu := []
set_option maxRecDepth 1000000 in
theorem cv9 {gh : sxGh} (hg : sxGd sxKw gh) : sxCtV sxKw gh ct9 := sxMeB_ok (cts := []) (cuts := cu9) (sp := []) 204 (by decide +kernel) hg (by decide) (by decide) (fun _ h => absurd h List.not_mem_nil)
/-- LotBeliefs.Tape.isWord -/
def ct10 : sxCt := (85, 0, (1, [], [], [(0, .inl 1), (1, .inl 1000021)], [], [], [], []), [], [
  (1, [], [], [], [.inr (false, (0, .ofNat 0))], [], [], []), 
  (1, [], [], [], [.inr (false, (0, .ofNat 1))], [], [], [])], [], 0, 0)
def cu10 : List sxCu := []
set_option maxRecDepth 1000000 in
theorem cv10 {gh : sxGh} (hg : sxGd sxKw gh) : sxCtV sxKw gh ct10 := sxMeB_ok (cts := []) (cuts := cu10) (sp := []) 204 (by decide +kernel) hg (by decide) (by decide) (fun _ h => absurd h List.not_mem_nil)
/-- LotBeliefs.Tape.isWord -/
def ct11 : sxCt := (85, 0, (1, [], [], [(0, .inl 1), (1, .inl 1000022)], [], [], [], []), [], [
  (1, [], [], [], [.inr (false, (0, .ofNat 0))], [], [], []), 
  (1, [], [], [], [.inr (false, (0, .ofNat 1))], [], [], [])], [], 0, 0)
def cu11 : List sxCu := []
set_option maxRecDepth 1000000 in
theorem cv11 {gh : sxGh} (hg : sxGd sxKw gh) : sxCtV sxKw gh ct11 := sxMeB_ok (cts := []) (cuts := cu11) (sp := []) 204 (by decide +kernel) hg (by decide) (by decide) (fun _ h => absurd h List.not_mem_nil)
/-- LotBeliefs.Tape.isWord -/
def ct12 : sxCt := (85, 0, (1, [], [], [(0, .inl 1), (1, .inl 1000023)], [], [], [], []), [], [
  (1, [], [], [], [.inr (false, (0, .ofNat 0))], [], [], []), 
  (1, [], [], [], [.inr (false, (0, .ofNat 1))], [], [], [])], [], 0, 0)
def cu12 : List sxCu := []
set_option maxRecDepth 1000000 in
theorem cv12 {gh : sxGh} (hg : sxGd sxKw gh) : sxCtV sxKw gh ct12 := sxMeB_ok (cts := []) (cuts := cu12) (sp := []) 204 (by decide +kernel) hg (by decide) (by decide) (fun _ h => absurd h List.not_mem_nil)
/-- LotBeliefs.Tape.isWord -/
def ct13 : sxCt := (85, 0, (1, [], [], [(0, .inl 1), (1, .inl 1000024)], [], [], [], []), [], [
  (1, [], [], [], [.inr (false, (0, .ofNat 0))], [], [], []), 
  (1, [], [], [], [.inr (false, (0, .ofNat 1))], [], [], [])], [], 0, 0)
def cu13 : List sxCu := []
set_option maxRecDepth 1000000 in
theorem cv13 {gh : sxGh} (hg : sxGd sxKw gh) : sxCtV sxKw gh ct13 := sxMeB_ok (cts := []) (cuts := cu13) (sp := []) 204 (by decide +kernel) hg (by decide) (by decide) (fun _ h => absurd h List.not_mem_nil)
/-- LotBeliefs.Tape.isWord -/
def ct14 : sxCt := (85, 0, (1, [], [], [(0, .inl 1), (1, .inl 1000025)], [], [], [], []), [], [
  (1, [], [], [], [.inr (false, (0, .ofNat 0))], [], [], []), 
  (1, [], [], [], [.inr (false, (0, .ofNat 1))], [], [], [])], [], 0, 0)
def cu14 : List sxCu := []
set_option maxRecDepth 1000000 in
theorem cv14 {gh : sxGh} (hg : sxGd sxKw gh) : sxCtV sxKw gh ct14 := sxMeB_ok (cts := []) (cuts := cu14) (sp := []) 264 (by decide +kernel) hg (by decide) (by decide) (fun _ h => absurd h List.not_mem_nil)
/-- LotBeliefs.TongueReader.quantityHere -/
def ct15 : sxCt := (111, 1, (1, [], [], [(0, .inl 1)], [], [], [], []), [], [
  (2, [(1, .negSucc 0, .ofNat 9)], [], [], [.inr (false, (1, .ofNat 0))], [], [], [])], [], 0, 0)
def cu15 : List sxCu := []
set_option maxRecDepth 1000000 in
theorem cv15 {gh : sxGh} (hg : sxGd sxKw gh) : sxCtV sxKw gh ct15 := sxMeB_ok (cts := [ct5, ct6, ct7, ct8, ct9, ct10, ct11, ct12, ct13, ct14]) (cuts := cu15) (sp := []) 143 (by decide +kernel) hg (by decide) (by decide) (List.forall_mem_cons.mpr ⟨cv5 hg, (List.forall_mem_cons.mpr ⟨cv6 hg, (List.forall_mem_cons.mpr ⟨cv7 hg, (List.forall_mem_cons.mpr ⟨cv8 hg, (List.forall_mem_cons.mpr ⟨cv9 hg, (List.forall_mem_cons.mpr ⟨cv10 hg, (List.forall_mem_cons.mpr ⟨cv11 hg, (List.forall_mem_cons.mpr ⟨cv12 hg, (List.forall_mem_cons.mpr ⟨cv13 hg, (List.forall_mem_cons.mpr ⟨cv14 hg, (fun _ h => absurd h List.not_mem_nil)⟩)⟩)⟩)⟩)⟩)⟩)⟩)⟩)⟩)⟩)
/-- LotBeliefs.TongueReader.readValue -/
def ct16 : sxCt := (110, 2, (1, [], [], [(0, .inl 1), (1, .inl 23)], [], [(1, (0, .ofNat 7), .inr (false, (0, .ofNat 6)))], [], []), [(1, 4), (1, 5), (1, 6), (1, 7), (1, 9), (1, 10), (23, 3), (24, 0)], [
  (2, [(1, .ofNat 0, .ofNat 4)], [], [], [], [(1, (0, .ofNat 3), .inr (false, (1, .ofNat 0))), (1, (0, .ofNat 7), .inr (false, (0, .ofNat 6)))], [], [])], [], 0, 0)
def cu16 : List sxCu := []
set_option maxRecDepth 1000000 in
theorem cv16 {gh : sxGh} (hg : sxGd sxKw gh) : sxCtV sxKw gh ct16 := sxMeB_ok (cts := [ct2, ct15]) (cuts := cu16) (sp := []) 476 (by decide +kernel) hg (by decide) (by decide) (List.forall_mem_cons.mpr ⟨cv2 hg, (List.forall_mem_cons.mpr ⟨cv15 hg, (fun _ h => absurd h List.not_mem_nil)⟩)⟩)
/-- LotBeliefs.TongueReader.readProduct -/
def ct17 : sxCt := (109, 3, (1, [], [], [(0, .inl 1), (1, .inl 23)], [], [(1, (0, .ofNat 7), .inr (false, (0, .ofNat 6)))], [], []), [(1, 4), (1, 5), (1, 6), (1, 7), (1, 9), (1, 10), (23, 3), (24, 0)], [
  (2, [(1, .ofNat 0, .ofNat 4)], [], [], [], [(1, (0, .ofNat 3), .inr (false, (1, .ofNat 0))), (1, (0, .ofNat 7), .inr (false, (0, .ofNat 6)))], [], [])], [], 0, 0)
def cu17 : List sxCu := [
  (7, (3, [(1, .ofNat 0, .ofNat 200), (2, .ofNat 0, .ofNat 4)], [], [(0, .inl 1), (1, .inl 23), (2, .inr (false, (1, .ofNat 0)))], [], [(1, (0, .ofNat 3), .inr (false, (2, .ofNat 0))), (1, (0, .ofNat 7), .inr (false, (0, .ofNat 6)))], [], []), ((0, 1, .ofNat 200), (0, 0, .ofNat 0), (0, 0, .ofNat 0)), 0, 0)]
set_option maxRecDepth 1000000 in
theorem cv17 {gh : sxGh} (hg : sxGd sxKw gh) : sxCtV sxKw gh ct17 := sxMeB_ok (cts := [ct2, ct16]) (cuts := cu17) (sp := []) 127 (by decide +kernel) hg (by decide) (by decide) (List.forall_mem_cons.mpr ⟨cv2 hg, (List.forall_mem_cons.mpr ⟨cv16 hg, (fun _ h => absurd h List.not_mem_nil)⟩)⟩)
/-- LotBeliefs.TongueReader.readSum -/
def ct18 : sxCt := (108, 4, (1, [], [], [(0, .inl 1), (1, .inl 23)], [], [(1, (0, .ofNat 7), .inr (false, (0, .ofNat 6)))], [], []), [(1, 4), (1, 5), (1, 6), (1, 7), (1, 9), (1, 10), (23, 3), (24, 0)], [
  (2, [(1, .ofNat 0, .ofNat 4)], [], [], [], [(1, (0, .ofNat 3), .inr (false, (1, .ofNat 0))), (1, (0, .ofNat 7), .inr (false, (0, .ofNat 6)))], [], [])], [], 0, 0)
def cu18 : List sxCu := [
  (7, (3, [(1, .ofNat 0, .ofNat 200), (2, .ofNat 0, .ofNat 4)], [], [(0, .inl 1), (1, .inl 23), (2, .inr (false, (1, .ofNat 0)))], [], [(1, (0, .ofNat 3), .inr (false, (2, .ofNat 0))), (1, (0, .ofNat 7), .inr (false, (0, .ofNat 6)))], [], []), ((0, 1, .ofNat 200), (0, 0, .ofNat 0), (0, 0, .ofNat 0)), 0, 0)]
set_option maxRecDepth 1000000 in
theorem cv18 {gh : sxGh} (hg : sxGd sxKw gh) : sxCtV sxKw gh ct18 := sxMeB_ok (cts := [ct2, ct17]) (cuts := cu18) (sp := []) 285 (by decide +kernel) hg (by decide) (by decide) (List.forall_mem_cons.mpr ⟨cv2 hg, (List.forall_mem_cons.mpr ⟨cv17 hg, (fun _ h => absurd h List.not_mem_nil)⟩)⟩)
/-- LotBeliefs.TongueReader.readRelation -/
def ct19 : sxCt := (107, 5, (1, [], [], [(0, .inl 1), (1, .inl 23)], [], [(1, (0, .ofNat 7), .inr (false, (0, .ofNat 6)))], [], []), [(1, 4), (1, 5), (1, 6), (1, 7), (1, 9), (1, 10), (23, 3), (24, 0)], [
  (3, [(1, .ofNat 0, .ofNat 4), (2, .ofNat 1, .ofNat 201)], [], [], [], [(1, (0, .ofNat 3), .inr (false, (1, .ofNat 0))), (1, (0, .ofNat 7), .inr (false, (0, .ofNat 6))), (23, (0, .ofNat 2), .inr (false, (2, .ofNat 0)))], [], [])], [], 0, 0)
def cu19 : List sxCu := []
set_option maxRecDepth 1000000 in
theorem cv19 {gh : sxGh} (hg : sxGd sxKw gh) : sxCtV sxKw gh ct19 := sxMeB_ok (cts := [ct2, ct18]) (cuts := cu19) (sp := []) 617 (by decide +kernel) hg (by decide) (by decide) (List.forall_mem_cons.mpr ⟨cv2 hg, (List.forall_mem_cons.mpr ⟨cv18 hg, (fun _ h => absurd h List.not_mem_nil)⟩)⟩)
/-- LotBeliefs.TongueReader.readPart -/
def ct20 : sxCt := (106, 6, (1, [], [], [(0, .inl 1), (1, .inl 23)], [], [(1, (0, .ofNat 7), .inr (false, (0, .ofNat 6)))], [], []), [(1, 4), (1, 5), (1, 6), (1, 7), (1, 9), (1, 10), (23, 3), (24, 0)], [
  (2, [(1, .ofNat 0, .ofNat 4)], [], [], [], [(1, (0, .ofNat 3), .inr (false, (1, .ofNat 0))), (1, (0, .ofNat 7), .inr (false, (0, .ofNat 6)))], [], [])], [], 0, 0)
def cu20 : List sxCu := []
set_option maxRecDepth 1000000 in
theorem cv20 {gh : sxGh} (hg : sxGd sxKw gh) : sxCtV sxKw gh ct20 := sxMeB_ok (cts := [ct4, ct19]) (cuts := cu20) (sp := []) 158 (by decide +kernel) hg (by decide) (by decide) (List.forall_mem_cons.mpr ⟨cv4 hg, (List.forall_mem_cons.mpr ⟨cv19 hg, (fun _ h => absurd h List.not_mem_nil)⟩)⟩)
/-- LotBeliefs.Tape.isWord -/
def ct21 : sxCt := (85, 0, (1, [], [], [(0, .inl 1), (1, .inl 1000026)], [], [], [], []), [], [
  (1, [], [], [], [.inr (false, (0, .ofNat 0))], [], [], []), 
  (1, [], [], [], [.inr (false, (0, .ofNat 1))], [], [], [])], [], 0, 0)
def cu21 : List sxCu := []
set_option maxRecDepth 1000000 in
theorem cv21 {gh : sxGh} (hg : sxGd sxKw gh) : sxCtV sxKw gh ct21 := sxMeB_ok (cts := []) (cuts := cu21) (sp := []) 174 (by decide +kernel) hg (by decide) (by decide) (fun _ h => absurd h List.not_mem_nil)
/-- LotBeliefs.TongueReader.readEach -/
def ct22 : sxCt := (105, 7, (1, [], [], [(0, .inl 1), (1, .inl 23)], [], [(1, (0, .ofNat 7), .inr (false, (0, .ofNat 6)))], [], []), [(1, 4), (1, 5), (1, 6), (1, 7), (1, 9), (1, 10), (23, 3), (24, 0)], [
  (2, [(1, .ofNat 0, .ofNat 4)], [], [], [], [(1, (0, .ofNat 3), .inr (false, (1, .ofNat 0))), (1, (0, .ofNat 7), .inr (false, (0, .ofNat 6)))], [], [])], [], 0, 0)
def cu22 : List sxCu := [
  (7, (3, [(1, .ofNat 0, .ofNat 200), (2, .ofNat 0, .ofNat 4)], [], [(0, .inl 1), (1, .inl 23), (2, .inr (false, (1, .ofNat 0)))], [], [(1, (0, .ofNat 3), .inr (false, (2, .ofNat 0))), (1, (0, .ofNat 7), .inr (false, (0, .ofNat 6)))], [], []), ((0, 1, .ofNat 200), (0, 0, .ofNat 0), (0, 0, .ofNat 0)), 0, 0)]
set_option maxRecDepth 1000000 in
theorem cv22 {gh : sxGh} (hg : sxGd sxKw gh) : sxCtV sxKw gh ct22 := sxMeB_ok (cts := [ct2, ct21, ct20]) (cuts := cu22) (sp := []) 111 (by decide +kernel) hg (by decide) (by decide) (List.forall_mem_cons.mpr ⟨cv2 hg, (List.forall_mem_cons.mpr ⟨cv21 hg, (List.forall_mem_cons.mpr ⟨cv20 hg, (fun _ h => absurd h List.not_mem_nil)⟩)⟩)⟩)
/-- LotBeliefs.Tape.isWord -/
def ct23 : sxCt := (85, 0, (1, [], [], [(0, .inl 1), (1, .inl 1000027)], [], [], [], []), [], [
  (1, [], [], [], [.inr (false, (0, .ofNat 0))], [], [], []), 
  (1, [], [], [], [.inr (false, (0, .ofNat 1))], [], [], [])], [], 0, 0)
def cu23 : List sxCu := []
set_option maxRecDepth 1000000 in
theorem cv23 {gh : sxGh} (hg : sxGd sxKw gh) : sxCtV sxKw gh ct23 := sxMeB_ok (cts := []) (cuts := cu23) (sp := []) 144 (by decide +kernel) hg (by decide) (by decide) (fun _ h => absurd h List.not_mem_nil)
/-- LotBeliefs.TongueReader.readEither -/
def ct24 : sxCt := (104, 8, (1, [], [], [(0, .inl 1), (1, .inl 23)], [], [(1, (0, .ofNat 7), .inr (false, (0, .ofNat 6)))], [], []), [(1, 4), (1, 5), (1, 6), (1, 7), (1, 9), (1, 10), (23, 3), (24, 0)], [
  (2, [(1, .ofNat 0, .ofNat 4)], [], [], [], [(1, (0, .ofNat 3), .inr (false, (1, .ofNat 0))), (1, (0, .ofNat 7), .inr (false, (0, .ofNat 6)))], [], [])], [], 0, 0)
def cu24 : List sxCu := [
  (7, (3, [(1, .ofNat 0, .ofNat 200), (2, .ofNat 0, .ofNat 4)], [], [(0, .inl 1), (1, .inl 23), (2, .inr (false, (1, .ofNat 0)))], [], [(1, (0, .ofNat 3), .inr (false, (2, .ofNat 0))), (1, (0, .ofNat 7), .inr (false, (0, .ofNat 6)))], [], []), ((0, 1, .ofNat 200), (0, 0, .ofNat 0), (0, 0, .ofNat 0)), 0, 0)]
set_option maxRecDepth 1000000 in
theorem cv24 {gh : sxGh} (hg : sxGd sxKw gh) : sxCtV sxKw gh ct24 := sxMeB_ok (cts := [ct2, ct23, ct22]) (cuts := cu24) (sp := []) 111 (by decide +kernel) hg (by decide) (by decide) (List.forall_mem_cons.mpr ⟨cv2 hg, (List.forall_mem_cons.mpr ⟨cv23 hg, (List.forall_mem_cons.mpr ⟨cv22 hg, (fun _ h => absurd h List.not_mem_nil)⟩)⟩)⟩)
/-- LotBeliefs.TongueReader.readValue -/
def ct25 : sxCt := (110, 5, (1, [], [], [(0, .inl 1), (1, .inl 23)], [], [(1, (0, .ofNat 7), .inr (false, (0, .ofNat 5)))], [], []), [(1, 4), (1, 5), (1, 6), (1, 7), (1, 8), (1, 9), (1, 10), (23, 3), (24, 0)], [
  (2, [(1, .ofNat 0, .ofNat 4)], [], [], [], [(1, (0, .ofNat 3), .inr (false, (1, .ofNat 0))), (1, (0, .ofNat 7), .inr (false, (0, .ofNat 5)))], [], [])], [], 0, 0)
def cu25 : List sxCu := []
set_option maxRecDepth 1000000 in
theorem cv25 {gh : sxGh} (hg : sxGd sxKw gh) : sxCtV sxKw gh ct25 := sxMeB_ok (cts := [ct2, ct18, ct15]) (cuts := cu25) (sp := []) 583 (by decide +kernel) hg (by decide) (by decide) (List.forall_mem_cons.mpr ⟨cv2 hg, (List.forall_mem_cons.mpr ⟨cv18 hg, (List.forall_mem_cons.mpr ⟨cv15 hg, (fun _ h => absurd h List.not_mem_nil)⟩)⟩)⟩)
/-- LotBeliefs.TongueReader.readProduct -/
def ct26 : sxCt := (109, 6, (1, [], [], [(0, .inl 1), (1, .inl 23)], [], [(1, (0, .ofNat 7), .inr (false, (0, .ofNat 5)))], [], []), [(1, 4), (1, 5), (1, 6), (1, 7), (1, 8), (1, 9), (1, 10), (23, 3), (24, 0)], [
  (2, [(1, .ofNat 0, .ofNat 4)], [], [], [], [(1, (0, .ofNat 3), .inr (false, (1, .ofNat 0))), (1, (0, .ofNat 7), .inr (false, (0, .ofNat 5)))], [], [])], [], 0, 0)
def cu26 : List sxCu := [
  (7, (3, [(1, .ofNat 0, .ofNat 200), (2, .ofNat 0, .ofNat 4)], [], [(0, .inl 1), (1, .inl 23), (2, .inr (false, (1, .ofNat 0)))], [], [(1, (0, .ofNat 3), .inr (false, (2, .ofNat 0))), (1, (0, .ofNat 7), .inr (false, (0, .ofNat 5)))], [], []), ((0, 1, .ofNat 200), (0, 0, .ofNat 0), (0, 0, .ofNat 0)), 0, 0)]
set_option maxRecDepth 1000000 in
theorem cv26 {gh : sxGh} (hg : sxGd sxKw gh) : sxCtV sxKw gh ct26 := sxMeB_ok (cts := [ct2, ct25]) (cuts := cu26) (sp := []) 127 (by decide +kernel) hg (by decide) (by decide) (List.forall_mem_cons.mpr ⟨cv2 hg, (List.forall_mem_cons.mpr ⟨cv25 hg, (fun _ h => absurd h List.not_mem_nil)⟩)⟩)
/-- LotBeliefs.TongueReader.readSum -/
def ct27 : sxCt := (108, 7, (1, [], [], [(0, .inl 1), (1, .inl 23)], [], [(1, (0, .ofNat 7), .inr (false, (0, .ofNat 5)))], [], []), [(1, 4), (1, 5), (1, 6), (1, 7), (1, 8), (1, 9), (1, 10), (23, 3), (24, 0)], [
  (2, [(1, .ofNat 0, .ofNat 4)], [], [], [], [(1, (0, .ofNat 3), .inr (false, (1, .ofNat 0))), (1, (0, .ofNat 7), .inr (false, (0, .ofNat 5)))], [], [])], [], 0, 0)
def cu27 : List sxCu := [
  (7, (3, [(1, .ofNat 0, .ofNat 200), (2, .ofNat 0, .ofNat 4)], [], [(0, .inl 1), (1, .inl 23), (2, .inr (false, (1, .ofNat 0)))], [], [(1, (0, .ofNat 3), .inr (false, (2, .ofNat 0))), (1, (0, .ofNat 7), .inr (false, (0, .ofNat 5)))], [], []), ((0, 1, .ofNat 200), (0, 0, .ofNat 0), (0, 0, .ofNat 0)), 0, 0)]
set_option maxRecDepth 1000000 in
theorem cv27 {gh : sxGh} (hg : sxGd sxKw gh) : sxCtV sxKw gh ct27 := sxMeB_ok (cts := [ct2, ct26]) (cuts := cu27) (sp := []) 285 (by decide +kernel) hg (by decide) (by decide) (List.forall_mem_cons.mpr ⟨cv2 hg, (List.forall_mem_cons.mpr ⟨cv26 hg, (fun _ h => absurd h List.not_mem_nil)⟩)⟩)
/-- LotBeliefs.TongueReader.readRelation -/
def ct28 : sxCt := (107, 8, (1, [], [], [(0, .inl 1), (1, .inl 23)], [], [(1, (0, .ofNat 7), .inr (false, (0, .ofNat 5)))], [], []), [(1, 4), (1, 5), (1, 6), (1, 7), (1, 8), (1, 9), (1, 10), (23, 3), (24, 0)], [
  (3, [(1, .ofNat 0, .ofNat 4), (2, .ofNat 1, .ofNat 201)], [], [], [], [(1, (0, .ofNat 3), .inr (false, (1, .ofNat 0))), (1, (0, .ofNat 7), .inr (false, (0, .ofNat 5))), (23, (0, .ofNat 2), .inr (false, (2, .ofNat 0)))], [], [])], [], 0, 0)
def cu28 : List sxCu := []
set_option maxRecDepth 1000000 in
theorem cv28 {gh : sxGh} (hg : sxGd sxKw gh) : sxCtV sxKw gh ct28 := sxMeB_ok (cts := [ct2, ct27]) (cuts := cu28) (sp := []) 617 (by decide +kernel) hg (by decide) (by decide) (List.forall_mem_cons.mpr ⟨cv2 hg, (List.forall_mem_cons.mpr ⟨cv27 hg, (fun _ h => absurd h List.not_mem_nil)⟩)⟩)
/-- LotBeliefs.TongueReader.readPart -/
def ct29 : sxCt := (106, 9, (1, [], [], [(0, .inl 1), (1, .inl 23)], [], [(1, (0, .ofNat 7), .inr (false, (0, .ofNat 5)))], [], []), [(1, 4), (1, 5), (1, 6), (1, 7), (1, 8), (1, 9), (1, 10), (23, 3), (24, 0)], [
  (2, [(1, .ofNat 0, .ofNat 4)], [], [], [], [(1, (0, .ofNat 3), .inr (false, (1, .ofNat 0))), (1, (0, .ofNat 7), .inr (false, (0, .ofNat 5)))], [], [])], [], 0, 0)
def cu29 : List sxCu := []
set_option maxRecDepth 1000000 in
theorem cv29 {gh : sxGh} (hg : sxGd sxKw gh) : sxCtV sxKw gh ct29 := sxMeB_ok (cts := [ct2, ct4, ct24, ct20, ct28]) (cuts := cu29) (sp := []) 290 (by decide +kernel) hg (by decide) (by decide) (List.forall_mem_cons.mpr ⟨cv2 hg, (List.forall_mem_cons.mpr ⟨cv4 hg, (List.forall_mem_cons.mpr ⟨cv24 hg, (List.forall_mem_cons.mpr ⟨cv20 hg, (List.forall_mem_cons.mpr ⟨cv28 hg, (fun _ h => absurd h List.not_mem_nil)⟩)⟩)⟩)⟩)⟩)
/-- LotBeliefs.TongueReader.readEach -/
def ct30 : sxCt := (105, 10, (1, [], [], [(0, .inl 1), (1, .inl 23)], [], [(1, (0, .ofNat 7), .inr (false, (0, .ofNat 5)))], [], []), [(1, 4), (1, 5), (1, 6), (1, 7), (1, 8), (1, 9), (1, 10), (23, 3), (24, 0)], [
  (2, [(1, .ofNat 0, .ofNat 4)], [], [], [], [(1, (0, .ofNat 3), .inr (false, (1, .ofNat 0))), (1, (0, .ofNat 7), .inr (false, (0, .ofNat 5)))], [], [])], [], 0, 0)
def cu30 : List sxCu := [
  (7, (3, [(1, .ofNat 0, .ofNat 200), (2, .ofNat 0, .ofNat 4)], [], [(0, .inl 1), (1, .inl 23), (2, .inr (false, (1, .ofNat 0)))], [], [(1, (0, .ofNat 3), .inr (false, (2, .ofNat 0))), (1, (0, .ofNat 7), .inr (false, (0, .ofNat 5)))], [], []), ((0, 1, .ofNat 200), (0, 0, .ofNat 0), (0, 0, .ofNat 0)), 0, 0)]
set_option maxRecDepth 1000000 in
theorem cv30 {gh : sxGh} (hg : sxGd sxKw gh) : sxCtV sxKw gh ct30 := sxMeB_ok (cts := [ct2, ct21, ct29]) (cuts := cu30) (sp := []) 111 (by decide +kernel) hg (by decide) (by decide) (List.forall_mem_cons.mpr ⟨cv2 hg, (List.forall_mem_cons.mpr ⟨cv21 hg, (List.forall_mem_cons.mpr ⟨cv29 hg, (fun _ h => absurd h List.not_mem_nil)⟩)⟩)⟩)
/-- LotBeliefs.TongueReader.readEither -/
def ct31 : sxCt := (104, 11, (1, [], [], [(0, .inl 1), (1, .inl 23)], [], [(1, (0, .ofNat 7), .inr (false, (0, .ofNat 5)))], [], []), [(1, 4), (1, 5), (1, 6), (1, 7), (1, 8), (1, 9), (1, 10), (23, 3), (24, 0)], [
  (2, [(1, .ofNat 0, .ofNat 4)], [], [], [], [(1, (0, .ofNat 3), .inr (false, (1, .ofNat 0))), (1, (0, .ofNat 7), .inr (false, (0, .ofNat 5)))], [], [])], [], 0, 0)
def cu31 : List sxCu := [
  (7, (3, [(1, .ofNat 0, .ofNat 200), (2, .ofNat 0, .ofNat 4)], [], [(0, .inl 1), (1, .inl 23), (2, .inr (false, (1, .ofNat 0)))], [], [(1, (0, .ofNat 3), .inr (false, (2, .ofNat 0))), (1, (0, .ofNat 7), .inr (false, (0, .ofNat 5)))], [], []), ((0, 1, .ofNat 200), (0, 0, .ofNat 0), (0, 0, .ofNat 0)), 0, 0)]
set_option maxRecDepth 1000000 in
theorem cv31 {gh : sxGh} (hg : sxGd sxKw gh) : sxCtV sxKw gh ct31 := sxMeB_ok (cts := [ct2, ct23, ct30]) (cuts := cu31) (sp := []) 111 (by decide +kernel) hg (by decide) (by decide) (List.forall_mem_cons.mpr ⟨cv2 hg, (List.forall_mem_cons.mpr ⟨cv23 hg, (List.forall_mem_cons.mpr ⟨cv30 hg, (fun _ h => absurd h List.not_mem_nil)⟩)⟩)⟩)
/-- LotBeliefs.TongueReader.readValue -/
def ct32 : sxCt := (110, 8, (1, [], [], [(0, .inl 1), (1, .inl 23)], [], [(1, (0, .ofNat 7), .inr (false, (0, .ofNat 4)))], [], []), [(1, 4), (1, 5), (1, 6), (1, 7), (1, 8), (1, 9), (1, 10), (23, 3), (24, 0)], [
  (2, [(1, .ofNat 0, .ofNat 4)], [], [], [], [(1, (0, .ofNat 3), .inr (false, (1, .ofNat 0))), (1, (0, .ofNat 7), .inr (false, (0, .ofNat 4)))], [], [])], [], 0, 0)
def cu32 : List sxCu := []
set_option maxRecDepth 1000000 in
theorem cv32 {gh : sxGh} (hg : sxGd sxKw gh) : sxCtV sxKw gh ct32 := sxMeB_ok (cts := [ct2, ct27, ct15]) (cuts := cu32) (sp := []) 583 (by decide +kernel) hg (by decide) (by decide) (List.forall_mem_cons.mpr ⟨cv2 hg, (List.forall_mem_cons.mpr ⟨cv27 hg, (List.forall_mem_cons.mpr ⟨cv15 hg, (fun _ h => absurd h List.not_mem_nil)⟩)⟩)⟩)
/-- LotBeliefs.TongueReader.readProduct -/
def ct33 : sxCt := (109, 9, (1, [], [], [(0, .inl 1), (1, .inl 23)], [], [(1, (0, .ofNat 7), .inr (false, (0, .ofNat 4)))], [], []), [(1, 4), (1, 5), (1, 6), (1, 7), (1, 8), (1, 9), (1, 10), (23, 3), (24, 0)], [
  (2, [(1, .ofNat 0, .ofNat 4)], [], [], [], [(1, (0, .ofNat 3), .inr (false, (1, .ofNat 0))), (1, (0, .ofNat 7), .inr (false, (0, .ofNat 4)))], [], [])], [], 0, 0)
def cu33 : List sxCu := [
  (7, (3, [(1, .ofNat 0, .ofNat 200), (2, .ofNat 0, .ofNat 4)], [], [(0, .inl 1), (1, .inl 23), (2, .inr (false, (1, .ofNat 0)))], [], [(1, (0, .ofNat 3), .inr (false, (2, .ofNat 0))), (1, (0, .ofNat 7), .inr (false, (0, .ofNat 4)))], [], []), ((0, 1, .ofNat 200), (0, 0, .ofNat 0), (0, 0, .ofNat 0)), 0, 0)]
set_option maxRecDepth 1000000 in
theorem cv33 {gh : sxGh} (hg : sxGd sxKw gh) : sxCtV sxKw gh ct33 := sxMeB_ok (cts := [ct2, ct32]) (cuts := cu33) (sp := []) 127 (by decide +kernel) hg (by decide) (by decide) (List.forall_mem_cons.mpr ⟨cv2 hg, (List.forall_mem_cons.mpr ⟨cv32 hg, (fun _ h => absurd h List.not_mem_nil)⟩)⟩)
/-- LotBeliefs.TongueReader.readSum -/
def ct34 : sxCt := (108, 10, (1, [], [], [(0, .inl 1), (1, .inl 23)], [], [(1, (0, .ofNat 7), .inr (false, (0, .ofNat 4)))], [], []), [(1, 4), (1, 5), (1, 6), (1, 7), (1, 8), (1, 9), (1, 10), (23, 3), (24, 0)], [
  (2, [(1, .ofNat 0, .ofNat 4)], [], [], [], [(1, (0, .ofNat 3), .inr (false, (1, .ofNat 0))), (1, (0, .ofNat 7), .inr (false, (0, .ofNat 4)))], [], [])], [], 0, 0)
def cu34 : List sxCu := [
  (7, (3, [(1, .ofNat 0, .ofNat 200), (2, .ofNat 0, .ofNat 4)], [], [(0, .inl 1), (1, .inl 23), (2, .inr (false, (1, .ofNat 0)))], [], [(1, (0, .ofNat 3), .inr (false, (2, .ofNat 0))), (1, (0, .ofNat 7), .inr (false, (0, .ofNat 4)))], [], []), ((0, 1, .ofNat 200), (0, 0, .ofNat 0), (0, 0, .ofNat 0)), 0, 0)]
set_option maxRecDepth 1000000 in
theorem cv34 {gh : sxGh} (hg : sxGd sxKw gh) : sxCtV sxKw gh ct34 := sxMeB_ok (cts := [ct2, ct33]) (cuts := cu34) (sp := []) 285 (by decide +kernel) hg (by decide) (by decide) (List.forall_mem_cons.mpr ⟨cv2 hg, (List.forall_mem_cons.mpr ⟨cv33 hg, (fun _ h => absurd h List.not_mem_nil)⟩)⟩)
/-- LotBeliefs.TongueReader.readRelation -/
def ct35 : sxCt := (107, 11, (1, [], [], [(0, .inl 1), (1, .inl 23)], [], [(1, (0, .ofNat 7), .inr (false, (0, .ofNat 4)))], [], []), [(1, 4), (1, 5), (1, 6), (1, 7), (1, 8), (1, 9), (1, 10), (23, 3), (24, 0)], [
  (3, [(1, .ofNat 0, .ofNat 4), (2, .ofNat 1, .ofNat 201)], [], [], [], [(1, (0, .ofNat 3), .inr (false, (1, .ofNat 0))), (1, (0, .ofNat 7), .inr (false, (0, .ofNat 4))), (23, (0, .ofNat 2), .inr (false, (2, .ofNat 0)))], [], [])], [], 0, 0)
def cu35 : List sxCu := []
set_option maxRecDepth 1000000 in
theorem cv35 {gh : sxGh} (hg : sxGd sxKw gh) : sxCtV sxKw gh ct35 := sxMeB_ok (cts := [ct2, ct34]) (cuts := cu35) (sp := []) 617 (by decide +kernel) hg (by decide) (by decide) (List.forall_mem_cons.mpr ⟨cv2 hg, (List.forall_mem_cons.mpr ⟨cv34 hg, (fun _ h => absurd h List.not_mem_nil)⟩)⟩)
/-- LotBeliefs.TongueReader.readPart -/
def ct36 : sxCt := (106, 12, (1, [], [], [(0, .inl 1), (1, .inl 23)], [], [(1, (0, .ofNat 7), .inr (false, (0, .ofNat 4)))], [], []), [(1, 4), (1, 5), (1, 6), (1, 7), (1, 8), (1, 9), (1, 10), (23, 3), (24, 0)], [
  (2, [(1, .ofNat 0, .ofNat 4)], [], [], [], [(1, (0, .ofNat 3), .inr (false, (1, .ofNat 0))), (1, (0, .ofNat 7), .inr (false, (0, .ofNat 4)))], [], [])], [], 0, 0)
def cu36 : List sxCu := []
set_option maxRecDepth 1000000 in
theorem cv36 {gh : sxGh} (hg : sxGd sxKw gh) : sxCtV sxKw gh ct36 := sxMeB_ok (cts := [ct2, ct4, ct31, ct29, ct35]) (cuts := cu36) (sp := []) 290 (by decide +kernel) hg (by decide) (by decide) (List.forall_mem_cons.mpr ⟨cv2 hg, (List.forall_mem_cons.mpr ⟨cv4 hg, (List.forall_mem_cons.mpr ⟨cv31 hg, (List.forall_mem_cons.mpr ⟨cv29 hg, (List.forall_mem_cons.mpr ⟨cv35 hg, (fun _ h => absurd h List.not_mem_nil)⟩)⟩)⟩)⟩)⟩)
/-- LotBeliefs.TongueReader.readEach -/
def ct37 : sxCt := (105, 13, (1, [], [], [(0, .inl 1), (1, .inl 23)], [], [(1, (0, .ofNat 7), .inr (false, (0, .ofNat 4)))], [], []), [(1, 4), (1, 5), (1, 6), (1, 7), (1, 8), (1, 9), (1, 10), (23, 3), (24, 0)], [
  (2, [(1, .ofNat 0, .ofNat 4)], [], [], [], [(1, (0, .ofNat 3), .inr (false, (1, .ofNat 0))), (1, (0, .ofNat 7), .inr (false, (0, .ofNat 4)))], [], [])], [], 0, 0)
def cu37 : List sxCu := [
  (7, (3, [(1, .ofNat 0, .ofNat 200), (2, .ofNat 0, .ofNat 4)], [], [(0, .inl 1), (1, .inl 23), (2, .inr (false, (1, .ofNat 0)))], [], [(1, (0, .ofNat 3), .inr (false, (2, .ofNat 0))), (1, (0, .ofNat 7), .inr (false, (0, .ofNat 4)))], [], []), ((0, 1, .ofNat 200), (0, 0, .ofNat 0), (0, 0, .ofNat 0)), 0, 0)]
set_option maxRecDepth 1000000 in
theorem cv37 {gh : sxGh} (hg : sxGd sxKw gh) : sxCtV sxKw gh ct37 := sxMeB_ok (cts := [ct2, ct21, ct36]) (cuts := cu37) (sp := []) 111 (by decide +kernel) hg (by decide) (by decide) (List.forall_mem_cons.mpr ⟨cv2 hg, (List.forall_mem_cons.mpr ⟨cv21 hg, (List.forall_mem_cons.mpr ⟨cv36 hg, (fun _ h => absurd h List.not_mem_nil)⟩)⟩)⟩)
/-- LotBeliefs.TongueReader.readEither -/
def ct38 : sxCt := (104, 14, (1, [], [], [(0, .inl 1), (1, .inl 23)], [], [(1, (0, .ofNat 7), .inr (false, (0, .ofNat 4)))], [], []), [(1, 4), (1, 5), (1, 6), (1, 7), (1, 8), (1, 9), (1, 10), (23, 3), (24, 0)], [
  (2, [(1, .ofNat 0, .ofNat 4)], [], [], [], [(1, (0, .ofNat 3), .inr (false, (1, .ofNat 0))), (1, (0, .ofNat 7), .inr (false, (0, .ofNat 4)))], [], [])], [], 0, 0)
def cu38 : List sxCu := [
  (7, (3, [(1, .ofNat 0, .ofNat 200), (2, .ofNat 0, .ofNat 4)], [], [(0, .inl 1), (1, .inl 23), (2, .inr (false, (1, .ofNat 0)))], [], [(1, (0, .ofNat 3), .inr (false, (2, .ofNat 0))), (1, (0, .ofNat 7), .inr (false, (0, .ofNat 4)))], [], []), ((0, 1, .ofNat 200), (0, 0, .ofNat 0), (0, 0, .ofNat 0)), 0, 0)]
set_option maxRecDepth 1000000 in
theorem cv38 {gh : sxGh} (hg : sxGd sxKw gh) : sxCtV sxKw gh ct38 := sxMeB_ok (cts := [ct2, ct23, ct37]) (cuts := cu38) (sp := []) 111 (by decide +kernel) hg (by decide) (by decide) (List.forall_mem_cons.mpr ⟨cv2 hg, (List.forall_mem_cons.mpr ⟨cv23 hg, (List.forall_mem_cons.mpr ⟨cv37 hg, (fun _ h => absurd h List.not_mem_nil)⟩)⟩)⟩)
/-- LotBeliefs.TongueReader.readValue -/
def ct39 : sxCt := (110, 11, (1, [], [], [(0, .inl 1), (1, .inl 23)], [], [(1, (0, .ofNat 7), .inr (false, (0, .ofNat 3)))], [], []), [(1, 4), (1, 5), (1, 6), (1, 7), (1, 8), (1, 9), (1, 10), (23, 3), (24, 0)], [
  (2, [(1, .ofNat 0, .ofNat 4)], [], [], [], [(1, (0, .ofNat 3), .inr (false, (1, .ofNat 0))), (1, (0, .ofNat 7), .inr (false, (0, .ofNat 3)))], [], [])], [], 0, 0)
def cu39 : List sxCu := []
set_option maxRecDepth 1000000 in
theorem cv39 {gh : sxGh} (hg : sxGd sxKw gh) : sxCtV sxKw gh ct39 := sxMeB_ok (cts := [ct2, ct34, ct15]) (cuts := cu39) (sp := []) 583 (by decide +kernel) hg (by decide) (by decide) (List.forall_mem_cons.mpr ⟨cv2 hg, (List.forall_mem_cons.mpr ⟨cv34 hg, (List.forall_mem_cons.mpr ⟨cv15 hg, (fun _ h => absurd h List.not_mem_nil)⟩)⟩)⟩)
/-- LotBeliefs.TongueReader.readProduct -/
def ct40 : sxCt := (109, 12, (1, [], [], [(0, .inl 1), (1, .inl 23)], [], [(1, (0, .ofNat 7), .inr (false, (0, .ofNat 3)))], [], []), [(1, 4), (1, 5), (1, 6), (1, 7), (1, 8), (1, 9), (1, 10), (23, 3), (24, 0)], [
  (2, [(1, .ofNat 0, .ofNat 4)], [], [], [], [(1, (0, .ofNat 3), .inr (false, (1, .ofNat 0))), (1, (0, .ofNat 7), .inr (false, (0, .ofNat 3)))], [], [])], [], 0, 0)
def cu40 : List sxCu := [
  (7, (3, [(1, .ofNat 0, .ofNat 200), (2, .ofNat 0, .ofNat 4)], [], [(0, .inl 1), (1, .inl 23), (2, .inr (false, (1, .ofNat 0)))], [], [(1, (0, .ofNat 3), .inr (false, (2, .ofNat 0))), (1, (0, .ofNat 7), .inr (false, (0, .ofNat 3)))], [], []), ((0, 1, .ofNat 200), (0, 0, .ofNat 0), (0, 0, .ofNat 0)), 0, 0)]
set_option maxRecDepth 1000000 in
theorem cv40 {gh : sxGh} (hg : sxGd sxKw gh) : sxCtV sxKw gh ct40 := sxMeB_ok (cts := [ct2, ct39]) (cuts := cu40) (sp := []) 127 (by decide +kernel) hg (by decide) (by decide) (List.forall_mem_cons.mpr ⟨cv2 hg, (List.forall_mem_cons.mpr ⟨cv39 hg, (fun _ h => absurd h List.not_mem_nil)⟩)⟩)
/-- LotBeliefs.TongueReader.readSum -/
def ct41 : sxCt := (108, 13, (1, [], [], [(0, .inl 1), (1, .inl 23)], [], [(1, (0, .ofNat 7), .inr (false, (0, .ofNat 3)))], [], []), [(1, 4), (1, 5), (1, 6), (1, 7), (1, 8), (1, 9), (1, 10), (23, 3), (24, 0)], [
  (2, [(1, .ofNat 0, .ofNat 4)], [], [], [], [(1, (0, .ofNat 3), .inr (false, (1, .ofNat 0))), (1, (0, .ofNat 7), .inr (false, (0, .ofNat 3)))], [], [])], [], 0, 0)
def cu41 : List sxCu := [
  (7, (3, [(1, .ofNat 0, .ofNat 200), (2, .ofNat 0, .ofNat 4)], [], [(0, .inl 1), (1, .inl 23), (2, .inr (false, (1, .ofNat 0)))], [], [(1, (0, .ofNat 3), .inr (false, (2, .ofNat 0))), (1, (0, .ofNat 7), .inr (false, (0, .ofNat 3)))], [], []), ((0, 1, .ofNat 200), (0, 0, .ofNat 0), (0, 0, .ofNat 0)), 0, 0)]
set_option maxRecDepth 1000000 in
theorem cv41 {gh : sxGh} (hg : sxGd sxKw gh) : sxCtV sxKw gh ct41 := sxMeB_ok (cts := [ct2, ct40]) (cuts := cu41) (sp := []) 285 (by decide +kernel) hg (by decide) (by decide) (List.forall_mem_cons.mpr ⟨cv2 hg, (List.forall_mem_cons.mpr ⟨cv40 hg, (fun _ h => absurd h List.not_mem_nil)⟩)⟩)
/-- LotBeliefs.TongueReader.readRelation -/
def ct42 : sxCt := (107, 14, (1, [], [], [(0, .inl 1), (1, .inl 23)], [], [(1, (0, .ofNat 7), .inr (false, (0, .ofNat 3)))], [], []), [(1, 4), (1, 5), (1, 6), (1, 7), (1, 8), (1, 9), (1, 10), (23, 3), (24, 0)], [
  (3, [(1, .ofNat 0, .ofNat 4), (2, .ofNat 1, .ofNat 201)], [], [], [], [(1, (0, .ofNat 3), .inr (false, (1, .ofNat 0))), (1, (0, .ofNat 7), .inr (false, (0, .ofNat 3))), (23, (0, .ofNat 2), .inr (false, (2, .ofNat 0)))], [], [])], [], 0, 0)
def cu42 : List sxCu := []
set_option maxRecDepth 1000000 in
theorem cv42 {gh : sxGh} (hg : sxGd sxKw gh) : sxCtV sxKw gh ct42 := sxMeB_ok (cts := [ct2, ct41]) (cuts := cu42) (sp := []) 617 (by decide +kernel) hg (by decide) (by decide) (List.forall_mem_cons.mpr ⟨cv2 hg, (List.forall_mem_cons.mpr ⟨cv41 hg, (fun _ h => absurd h List.not_mem_nil)⟩)⟩)
/-- LotBeliefs.TongueReader.readPart -/
def ct43 : sxCt := (106, 15, (1, [], [], [(0, .inl 1), (1, .inl 23)], [], [(1, (0, .ofNat 7), .inr (false, (0, .ofNat 3)))], [], []), [(1, 4), (1, 5), (1, 6), (1, 7), (1, 8), (1, 9), (1, 10), (23, 3), (24, 0)], [
  (2, [(1, .ofNat 0, .ofNat 4)], [], [], [], [(1, (0, .ofNat 3), .inr (false, (1, .ofNat 0))), (1, (0, .ofNat 7), .inr (false, (0, .ofNat 3)))], [], [])], [], 0, 0)
def cu43 : List sxCu := []
set_option maxRecDepth 1000000 in
theorem cv43 {gh : sxGh} (hg : sxGd sxKw gh) : sxCtV sxKw gh ct43 := sxMeB_ok (cts := [ct2, ct4, ct38, ct36, ct42]) (cuts := cu43) (sp := []) 290 (by decide +kernel) hg (by decide) (by decide) (List.forall_mem_cons.mpr ⟨cv2 hg, (List.forall_mem_cons.mpr ⟨cv4 hg, (List.forall_mem_cons.mpr ⟨cv38 hg, (List.forall_mem_cons.mpr ⟨cv36 hg, (List.forall_mem_cons.mpr ⟨cv42 hg, (fun _ h => absurd h List.not_mem_nil)⟩)⟩)⟩)⟩)⟩)
/-- LotBeliefs.TongueReader.readEach -/
def ct44 : sxCt := (105, 16, (1, [], [], [(0, .inl 1), (1, .inl 23)], [], [(1, (0, .ofNat 7), .inr (false, (0, .ofNat 3)))], [], []), [(1, 4), (1, 5), (1, 6), (1, 7), (1, 8), (1, 9), (1, 10), (23, 3), (24, 0)], [
  (2, [(1, .ofNat 0, .ofNat 4)], [], [], [], [(1, (0, .ofNat 3), .inr (false, (1, .ofNat 0))), (1, (0, .ofNat 7), .inr (false, (0, .ofNat 3)))], [], [])], [], 0, 0)
def cu44 : List sxCu := [
  (7, (3, [(1, .ofNat 0, .ofNat 200), (2, .ofNat 0, .ofNat 4)], [], [(0, .inl 1), (1, .inl 23), (2, .inr (false, (1, .ofNat 0)))], [], [(1, (0, .ofNat 3), .inr (false, (2, .ofNat 0))), (1, (0, .ofNat 7), .inr (false, (0, .ofNat 3)))], [], []), ((0, 1, .ofNat 200), (0, 0, .ofNat 0), (0, 0, .ofNat 0)), 0, 0)]
set_option maxRecDepth 1000000 in
theorem cv44 {gh : sxGh} (hg : sxGd sxKw gh) : sxCtV sxKw gh ct44 := sxMeB_ok (cts := [ct2, ct21, ct43]) (cuts := cu44) (sp := []) 111 (by decide +kernel) hg (by decide) (by decide) (List.forall_mem_cons.mpr ⟨cv2 hg, (List.forall_mem_cons.mpr ⟨cv21 hg, (List.forall_mem_cons.mpr ⟨cv43 hg, (fun _ h => absurd h List.not_mem_nil)⟩)⟩)⟩)
/-- LotBeliefs.TongueReader.readEither -/
def ct45 : sxCt := (104, 17, (1, [], [], [(0, .inl 1), (1, .inl 23)], [], [(1, (0, .ofNat 7), .inr (false, (0, .ofNat 3)))], [], []), [(1, 4), (1, 5), (1, 6), (1, 7), (1, 8), (1, 9), (1, 10), (23, 3), (24, 0)], [
  (2, [(1, .ofNat 0, .ofNat 4)], [], [], [], [(1, (0, .ofNat 3), .inr (false, (1, .ofNat 0))), (1, (0, .ofNat 7), .inr (false, (0, .ofNat 3)))], [], [])], [], 0, 0)
def cu45 : List sxCu := [
  (7, (3, [(1, .ofNat 0, .ofNat 200), (2, .ofNat 0, .ofNat 4)], [], [(0, .inl 1), (1, .inl 23), (2, .inr (false, (1, .ofNat 0)))], [], [(1, (0, .ofNat 3), .inr (false, (2, .ofNat 0))), (1, (0, .ofNat 7), .inr (false, (0, .ofNat 3)))], [], []), ((0, 1, .ofNat 200), (0, 0, .ofNat 0), (0, 0, .ofNat 0)), 0, 0)]
set_option maxRecDepth 1000000 in
theorem cv45 {gh : sxGh} (hg : sxGd sxKw gh) : sxCtV sxKw gh ct45 := sxMeB_ok (cts := [ct2, ct23, ct44]) (cuts := cu45) (sp := []) 111 (by decide +kernel) hg (by decide) (by decide) (List.forall_mem_cons.mpr ⟨cv2 hg, (List.forall_mem_cons.mpr ⟨cv23 hg, (List.forall_mem_cons.mpr ⟨cv44 hg, (fun _ h => absurd h List.not_mem_nil)⟩)⟩)⟩)
/-- LotBeliefs.TongueReader.readValue -/
def ct46 : sxCt := (110, 14, (1, [], [], [(0, .inl 1), (1, .inl 23)], [], [(1, (0, .ofNat 7), .inr (false, (0, .ofNat 2)))], [], []), [(1, 4), (1, 5), (1, 6), (1, 7), (1, 8), (1, 9), (1, 10), (23, 3), (24, 0)], [
  (2, [(1, .ofNat 0, .ofNat 4)], [], [], [], [(1, (0, .ofNat 3), .inr (false, (1, .ofNat 0))), (1, (0, .ofNat 7), .inr (false, (0, .ofNat 2)))], [], [])], [], 0, 0)
def cu46 : List sxCu := []
set_option maxRecDepth 1000000 in
theorem cv46 {gh : sxGh} (hg : sxGd sxKw gh) : sxCtV sxKw gh ct46 := sxMeB_ok (cts := [ct2, ct41, ct15]) (cuts := cu46) (sp := []) 583 (by decide +kernel) hg (by decide) (by decide) (List.forall_mem_cons.mpr ⟨cv2 hg, (List.forall_mem_cons.mpr ⟨cv41 hg, (List.forall_mem_cons.mpr ⟨cv15 hg, (fun _ h => absurd h List.not_mem_nil)⟩)⟩)⟩)
/-- LotBeliefs.TongueReader.readProduct -/
def ct47 : sxCt := (109, 15, (1, [], [], [(0, .inl 1), (1, .inl 23)], [], [(1, (0, .ofNat 7), .inr (false, (0, .ofNat 2)))], [], []), [(1, 4), (1, 5), (1, 6), (1, 7), (1, 8), (1, 9), (1, 10), (23, 3), (24, 0)], [
  (2, [(1, .ofNat 0, .ofNat 4)], [], [], [], [(1, (0, .ofNat 3), .inr (false, (1, .ofNat 0))), (1, (0, .ofNat 7), .inr (false, (0, .ofNat 2)))], [], [])], [], 0, 0)
def cu47 : List sxCu := [
  (7, (3, [(1, .ofNat 0, .ofNat 200), (2, .ofNat 0, .ofNat 4)], [], [(0, .inl 1), (1, .inl 23), (2, .inr (false, (1, .ofNat 0)))], [], [(1, (0, .ofNat 3), .inr (false, (2, .ofNat 0))), (1, (0, .ofNat 7), .inr (false, (0, .ofNat 2)))], [], []), ((0, 1, .ofNat 200), (0, 0, .ofNat 0), (0, 0, .ofNat 0)), 0, 0)]
set_option maxRecDepth 1000000 in
theorem cv47 {gh : sxGh} (hg : sxGd sxKw gh) : sxCtV sxKw gh ct47 := sxMeB_ok (cts := [ct2, ct46]) (cuts := cu47) (sp := []) 127 (by decide +kernel) hg (by decide) (by decide) (List.forall_mem_cons.mpr ⟨cv2 hg, (List.forall_mem_cons.mpr ⟨cv46 hg, (fun _ h => absurd h List.not_mem_nil)⟩)⟩)
/-- LotBeliefs.TongueReader.readSum -/
def ct48 : sxCt := (108, 16, (1, [], [], [(0, .inl 1), (1, .inl 23)], [], [(1, (0, .ofNat 7), .inr (false, (0, .ofNat 2)))], [], []), [(1, 4), (1, 5), (1, 6), (1, 7), (1, 8), (1, 9), (1, 10), (23, 3), (24, 0)], [
  (2, [(1, .ofNat 0, .ofNat 4)], [], [], [], [(1, (0, .ofNat 3), .inr (false, (1, .ofNat 0))), (1, (0, .ofNat 7), .inr (false, (0, .ofNat 2)))], [], [])], [], 0, 0)
def cu48 : List sxCu := [
  (7, (3, [(1, .ofNat 0, .ofNat 200), (2, .ofNat 0, .ofNat 4)], [], [(0, .inl 1), (1, .inl 23), (2, .inr (false, (1, .ofNat 0)))], [], [(1, (0, .ofNat 3), .inr (false, (2, .ofNat 0))), (1, (0, .ofNat 7), .inr (false, (0, .ofNat 2)))], [], []), ((0, 1, .ofNat 200), (0, 0, .ofNat 0), (0, 0, .ofNat 0)), 0, 0)]
set_option maxRecDepth 1000000 in
theorem cv48 {gh : sxGh} (hg : sxGd sxKw gh) : sxCtV sxKw gh ct48 := sxMeB_ok (cts := [ct2, ct47]) (cuts := cu48) (sp := []) 285 (by decide +kernel) hg (by decide) (by decide) (List.forall_mem_cons.mpr ⟨cv2 hg, (List.forall_mem_cons.mpr ⟨cv47 hg, (fun _ h => absurd h List.not_mem_nil)⟩)⟩)
/-- LotBeliefs.TongueReader.readRelation -/
def ct49 : sxCt := (107, 17, (1, [], [], [(0, .inl 1), (1, .inl 23)], [], [(1, (0, .ofNat 7), .inr (false, (0, .ofNat 2)))], [], []), [(1, 4), (1, 5), (1, 6), (1, 7), (1, 8), (1, 9), (1, 10), (23, 3), (24, 0)], [
  (3, [(1, .ofNat 0, .ofNat 4), (2, .ofNat 1, .ofNat 201)], [], [], [], [(1, (0, .ofNat 3), .inr (false, (1, .ofNat 0))), (1, (0, .ofNat 7), .inr (false, (0, .ofNat 2))), (23, (0, .ofNat 2), .inr (false, (2, .ofNat 0)))], [], [])], [], 0, 0)
def cu49 : List sxCu := []
set_option maxRecDepth 1000000 in
theorem cv49 {gh : sxGh} (hg : sxGd sxKw gh) : sxCtV sxKw gh ct49 := sxMeB_ok (cts := [ct2, ct48]) (cuts := cu49) (sp := []) 617 (by decide +kernel) hg (by decide) (by decide) (List.forall_mem_cons.mpr ⟨cv2 hg, (List.forall_mem_cons.mpr ⟨cv48 hg, (fun _ h => absurd h List.not_mem_nil)⟩)⟩)
/-- LotBeliefs.TongueReader.readPart -/
def ct50 : sxCt := (106, 18, (1, [], [], [(0, .inl 1), (1, .inl 23)], [], [(1, (0, .ofNat 7), .inr (false, (0, .ofNat 2)))], [], []), [(1, 4), (1, 5), (1, 6), (1, 7), (1, 8), (1, 9), (1, 10), (23, 3), (24, 0)], [
  (2, [(1, .ofNat 0, .ofNat 4)], [], [], [], [(1, (0, .ofNat 3), .inr (false, (1, .ofNat 0))), (1, (0, .ofNat 7), .inr (false, (0, .ofNat 2)))], [], [])], [], 0, 0)
def cu50 : List sxCu := []
set_option maxRecDepth 1000000 in
theorem cv50 {gh : sxGh} (hg : sxGd sxKw gh) : sxCtV sxKw gh ct50 := sxMeB_ok (cts := [ct2, ct4, ct45, ct43, ct49]) (cuts := cu50) (sp := []) 290 (by decide +kernel) hg (by decide) (by decide) (List.forall_mem_cons.mpr ⟨cv2 hg, (List.forall_mem_cons.mpr ⟨cv4 hg, (List.forall_mem_cons.mpr ⟨cv45 hg, (List.forall_mem_cons.mpr ⟨cv43 hg, (List.forall_mem_cons.mpr ⟨cv49 hg, (fun _ h => absurd h List.not_mem_nil)⟩)⟩)⟩)⟩)⟩)
/-- LotBeliefs.TongueReader.readEach -/
def ct51 : sxCt := (105, 19, (1, [], [], [(0, .inl 1), (1, .inl 23)], [], [(1, (0, .ofNat 7), .inr (false, (0, .ofNat 2)))], [], []), [(1, 4), (1, 5), (1, 6), (1, 7), (1, 8), (1, 9), (1, 10), (23, 3), (24, 0)], [
  (2, [(1, .ofNat 0, .ofNat 4)], [], [], [], [(1, (0, .ofNat 3), .inr (false, (1, .ofNat 0))), (1, (0, .ofNat 7), .inr (false, (0, .ofNat 2)))], [], [])], [], 0, 0)
def cu51 : List sxCu := [
  (7, (3, [(1, .ofNat 0, .ofNat 200), (2, .ofNat 0, .ofNat 4)], [], [(0, .inl 1), (1, .inl 23), (2, .inr (false, (1, .ofNat 0)))], [], [(1, (0, .ofNat 3), .inr (false, (2, .ofNat 0))), (1, (0, .ofNat 7), .inr (false, (0, .ofNat 2)))], [], []), ((0, 1, .ofNat 200), (0, 0, .ofNat 0), (0, 0, .ofNat 0)), 0, 0)]
set_option maxRecDepth 1000000 in
theorem cv51 {gh : sxGh} (hg : sxGd sxKw gh) : sxCtV sxKw gh ct51 := sxMeB_ok (cts := [ct2, ct21, ct50]) (cuts := cu51) (sp := []) 111 (by decide +kernel) hg (by decide) (by decide) (List.forall_mem_cons.mpr ⟨cv2 hg, (List.forall_mem_cons.mpr ⟨cv21 hg, (List.forall_mem_cons.mpr ⟨cv50 hg, (fun _ h => absurd h List.not_mem_nil)⟩)⟩)⟩)
/-- LotBeliefs.TongueReader.readEither -/
def ct52 : sxCt := (104, 20, (1, [], [], [(0, .inl 1), (1, .inl 23)], [], [(1, (0, .ofNat 7), .inr (false, (0, .ofNat 2)))], [], []), [(1, 4), (1, 5), (1, 6), (1, 7), (1, 8), (1, 9), (1, 10), (23, 3), (24, 0)], [
  (2, [(1, .ofNat 0, .ofNat 4)], [], [], [], [(1, (0, .ofNat 3), .inr (false, (1, .ofNat 0))), (1, (0, .ofNat 7), .inr (false, (0, .ofNat 2)))], [], [])], [], 0, 0)
def cu52 : List sxCu := [
  (7, (3, [(1, .ofNat 0, .ofNat 200), (2, .ofNat 0, .ofNat 4)], [], [(0, .inl 1), (1, .inl 23), (2, .inr (false, (1, .ofNat 0)))], [], [(1, (0, .ofNat 3), .inr (false, (2, .ofNat 0))), (1, (0, .ofNat 7), .inr (false, (0, .ofNat 2)))], [], []), ((0, 1, .ofNat 200), (0, 0, .ofNat 0), (0, 0, .ofNat 0)), 0, 0)]
set_option maxRecDepth 1000000 in
theorem cv52 {gh : sxGh} (hg : sxGd sxKw gh) : sxCtV sxKw gh ct52 := sxMeB_ok (cts := [ct2, ct23, ct51]) (cuts := cu52) (sp := []) 111 (by decide +kernel) hg (by decide) (by decide) (List.forall_mem_cons.mpr ⟨cv2 hg, (List.forall_mem_cons.mpr ⟨cv23 hg, (List.forall_mem_cons.mpr ⟨cv51 hg, (fun _ h => absurd h List.not_mem_nil)⟩)⟩)⟩)
/-- LotBeliefs.TongueReader.readValue -/
def ct53 : sxCt := (110, 17, (1, [], [], [(0, .inl 1), (1, .inl 23)], [], [(1, (0, .ofNat 7), .inr (false, (0, .ofNat 1)))], [], []), [(1, 4), (1, 5), (1, 6), (1, 7), (1, 8), (1, 9), (1, 10), (23, 3), (24, 0)], [
  (2, [(1, .ofNat 0, .ofNat 4)], [], [], [], [(1, (0, .ofNat 3), .inr (false, (1, .ofNat 0))), (1, (0, .ofNat 7), .inr (false, (0, .ofNat 1)))], [], [])], [], 0, 0)
def cu53 : List sxCu := []
set_option maxRecDepth 1000000 in
theorem cv53 {gh : sxGh} (hg : sxGd sxKw gh) : sxCtV sxKw gh ct53 := sxMeB_ok (cts := [ct2, ct48, ct15]) (cuts := cu53) (sp := []) 583 (by decide +kernel) hg (by decide) (by decide) (List.forall_mem_cons.mpr ⟨cv2 hg, (List.forall_mem_cons.mpr ⟨cv48 hg, (List.forall_mem_cons.mpr ⟨cv15 hg, (fun _ h => absurd h List.not_mem_nil)⟩)⟩)⟩)
/-- LotBeliefs.TongueReader.readProduct -/
def ct54 : sxCt := (109, 18, (1, [], [], [(0, .inl 1), (1, .inl 23)], [], [(1, (0, .ofNat 7), .inr (false, (0, .ofNat 1)))], [], []), [(1, 4), (1, 5), (1, 6), (1, 7), (1, 8), (1, 9), (1, 10), (23, 3), (24, 0)], [
  (2, [(1, .ofNat 0, .ofNat 4)], [], [], [], [(1, (0, .ofNat 3), .inr (false, (1, .ofNat 0))), (1, (0, .ofNat 7), .inr (false, (0, .ofNat 1)))], [], [])], [], 0, 0)
def cu54 : List sxCu := [
  (7, (3, [(1, .ofNat 0, .ofNat 200), (2, .ofNat 0, .ofNat 4)], [], [(0, .inl 1), (1, .inl 23), (2, .inr (false, (1, .ofNat 0)))], [], [(1, (0, .ofNat 3), .inr (false, (2, .ofNat 0))), (1, (0, .ofNat 7), .inr (false, (0, .ofNat 1)))], [], []), ((0, 1, .ofNat 200), (0, 0, .ofNat 0), (0, 0, .ofNat 0)), 0, 0)]
set_option maxRecDepth 1000000 in
theorem cv54 {gh : sxGh} (hg : sxGd sxKw gh) : sxCtV sxKw gh ct54 := sxMeB_ok (cts := [ct2, ct53]) (cuts := cu54) (sp := []) 127 (by decide +kernel) hg (by decide) (by decide) (List.forall_mem_cons.mpr ⟨cv2 hg, (List.forall_mem_cons.mpr ⟨cv53 hg, (fun _ h => absurd h List.not_mem_nil)⟩)⟩)
/-- LotBeliefs.TongueReader.readSum -/
def ct55 : sxCt := (108, 19, (1, [], [], [(0, .inl 1), (1, .inl 23)], [], [(1, (0, .ofNat 7), .inr (false, (0, .ofNat 1)))], [], []), [(1, 4), (1, 5), (1, 6), (1, 7), (1, 8), (1, 9), (1, 10), (23, 3), (24, 0)], [
  (2, [(1, .ofNat 0, .ofNat 4)], [], [], [], [(1, (0, .ofNat 3), .inr (false, (1, .ofNat 0))), (1, (0, .ofNat 7), .inr (false, (0, .ofNat 1)))], [], [])], [], 0, 0)
def cu55 : List sxCu := [
  (7, (3, [(1, .ofNat 0, .ofNat 200), (2, .ofNat 0, .ofNat 4)], [], [(0, .inl 1), (1, .inl 23), (2, .inr (false, (1, .ofNat 0)))], [], [(1, (0, .ofNat 3), .inr (false, (2, .ofNat 0))), (1, (0, .ofNat 7), .inr (false, (0, .ofNat 1)))], [], []), ((0, 1, .ofNat 200), (0, 0, .ofNat 0), (0, 0, .ofNat 0)), 0, 0)]
set_option maxRecDepth 1000000 in
theorem cv55 {gh : sxGh} (hg : sxGd sxKw gh) : sxCtV sxKw gh ct55 := sxMeB_ok (cts := [ct2, ct54]) (cuts := cu55) (sp := []) 285 (by decide +kernel) hg (by decide) (by decide) (List.forall_mem_cons.mpr ⟨cv2 hg, (List.forall_mem_cons.mpr ⟨cv54 hg, (fun _ h => absurd h List.not_mem_nil)⟩)⟩)
/-- LotBeliefs.TongueReader.readRelation -/
def ct56 : sxCt := (107, 20, (1, [], [], [(0, .inl 1), (1, .inl 23)], [], [(1, (0, .ofNat 7), .inr (false, (0, .ofNat 1)))], [], []), [(1, 4), (1, 5), (1, 6), (1, 7), (1, 8), (1, 9), (1, 10), (23, 3), (24, 0)], [
  (3, [(1, .ofNat 0, .ofNat 4), (2, .ofNat 1, .ofNat 201)], [], [], [], [(1, (0, .ofNat 3), .inr (false, (1, .ofNat 0))), (1, (0, .ofNat 7), .inr (false, (0, .ofNat 1))), (23, (0, .ofNat 2), .inr (false, (2, .ofNat 0)))], [], [])], [], 0, 0)
def cu56 : List sxCu := []
set_option maxRecDepth 1000000 in
theorem cv56 {gh : sxGh} (hg : sxGd sxKw gh) : sxCtV sxKw gh ct56 := sxMeB_ok (cts := [ct2, ct55]) (cuts := cu56) (sp := []) 617 (by decide +kernel) hg (by decide) (by decide) (List.forall_mem_cons.mpr ⟨cv2 hg, (List.forall_mem_cons.mpr ⟨cv55 hg, (fun _ h => absurd h List.not_mem_nil)⟩)⟩)
/-- LotBeliefs.TongueReader.readPart -/
def ct57 : sxCt := (106, 21, (1, [], [], [(0, .inl 1), (1, .inl 23)], [], [(1, (0, .ofNat 7), .inr (false, (0, .ofNat 1)))], [], []), [(1, 4), (1, 5), (1, 6), (1, 7), (1, 8), (1, 9), (1, 10), (23, 3), (24, 0)], [
  (2, [(1, .ofNat 0, .ofNat 4)], [], [], [], [(1, (0, .ofNat 3), .inr (false, (1, .ofNat 0))), (1, (0, .ofNat 7), .inr (false, (0, .ofNat 1)))], [], [])], [], 0, 0)
def cu57 : List sxCu := []
set_option maxRecDepth 1000000 in
theorem cv57 {gh : sxGh} (hg : sxGd sxKw gh) : sxCtV sxKw gh ct57 := sxMeB_ok (cts := [ct2, ct4, ct52, ct50, ct56]) (cuts := cu57) (sp := []) 290 (by decide +kernel) hg (by decide) (by decide) (List.forall_mem_cons.mpr ⟨cv2 hg, (List.forall_mem_cons.mpr ⟨cv4 hg, (List.forall_mem_cons.mpr ⟨cv52 hg, (List.forall_mem_cons.mpr ⟨cv50 hg, (List.forall_mem_cons.mpr ⟨cv56 hg, (fun _ h => absurd h List.not_mem_nil)⟩)⟩)⟩)⟩)⟩)
/-- LotBeliefs.TongueReader.readEach -/
def ct58 : sxCt := (105, 22, (1, [], [], [(0, .inl 1), (1, .inl 23)], [], [(1, (0, .ofNat 7), .inr (false, (0, .ofNat 1)))], [], []), [(1, 4), (1, 5), (1, 6), (1, 7), (1, 8), (1, 9), (1, 10), (23, 3), (24, 0)], [
  (2, [(1, .ofNat 0, .ofNat 4)], [], [], [], [(1, (0, .ofNat 3), .inr (false, (1, .ofNat 0))), (1, (0, .ofNat 7), .inr (false, (0, .ofNat 1)))], [], [])], [], 0, 0)
def cu58 : List sxCu := [
  (7, (3, [(1, .ofNat 0, .ofNat 200), (2, .ofNat 0, .ofNat 4)], [], [(0, .inl 1), (1, .inl 23), (2, .inr (false, (1, .ofNat 0)))], [], [(1, (0, .ofNat 3), .inr (false, (2, .ofNat 0))), (1, (0, .ofNat 7), .inr (false, (0, .ofNat 1)))], [], []), ((0, 1, .ofNat 200), (0, 0, .ofNat 0), (0, 0, .ofNat 0)), 0, 0)]
set_option maxRecDepth 1000000 in
theorem cv58 {gh : sxGh} (hg : sxGd sxKw gh) : sxCtV sxKw gh ct58 := sxMeB_ok (cts := [ct2, ct21, ct57]) (cuts := cu58) (sp := []) 111 (by decide +kernel) hg (by decide) (by decide) (List.forall_mem_cons.mpr ⟨cv2 hg, (List.forall_mem_cons.mpr ⟨cv21 hg, (List.forall_mem_cons.mpr ⟨cv57 hg, (fun _ h => absurd h List.not_mem_nil)⟩)⟩)⟩)
/-- LotBeliefs.TongueReader.readEither -/
def ct59 : sxCt := (104, 23, (1, [], [], [(0, .inl 1), (1, .inl 23)], [], [(1, (0, .ofNat 7), .inr (false, (0, .ofNat 1)))], [], []), [(1, 4), (1, 5), (1, 6), (1, 7), (1, 8), (1, 9), (1, 10), (23, 3), (24, 0)], [
  (2, [(1, .ofNat 0, .ofNat 4)], [], [], [], [(1, (0, .ofNat 3), .inr (false, (1, .ofNat 0))), (1, (0, .ofNat 7), .inr (false, (0, .ofNat 1)))], [], [])], [], 0, 0)
def cu59 : List sxCu := [
  (7, (3, [(1, .ofNat 0, .ofNat 200), (2, .ofNat 0, .ofNat 4)], [], [(0, .inl 1), (1, .inl 23), (2, .inr (false, (1, .ofNat 0)))], [], [(1, (0, .ofNat 3), .inr (false, (2, .ofNat 0))), (1, (0, .ofNat 7), .inr (false, (0, .ofNat 1)))], [], []), ((0, 1, .ofNat 200), (0, 0, .ofNat 0), (0, 0, .ofNat 0)), 0, 0)]
set_option maxRecDepth 1000000 in
theorem cv59 {gh : sxGh} (hg : sxGd sxKw gh) : sxCtV sxKw gh ct59 := sxMeB_ok (cts := [ct2, ct23, ct58]) (cuts := cu59) (sp := []) 111 (by decide +kernel) hg (by decide) (by decide) (List.forall_mem_cons.mpr ⟨cv2 hg, (List.forall_mem_cons.mpr ⟨cv23 hg, (List.forall_mem_cons.mpr ⟨cv58 hg, (fun _ h => absurd h List.not_mem_nil)⟩)⟩)⟩)
/-- LotBeliefs.TongueReader.readValue -/
def ct60 : sxCt := (110, 20, (1, [], [], [(0, .inl 1), (1, .inl 23)], [], [(1, (0, .ofNat 7), .inr (false, (0, .ofNat 0)))], [], []), [(1, 4), (1, 5), (1, 6), (1, 7), (1, 8), (1, 9), (1, 10), (23, 3), (24, 0)], [
  (2, [(1, .ofNat 0, .ofNat 4)], [], [], [], [(1, (0, .ofNat 3), .inr (false, (1, .ofNat 0))), (1, (0, .ofNat 7), .inr (false, (0, .ofNat 0)))], [], [])], [], 0, 0)
def cu60 : List sxCu := []
set_option maxRecDepth 1000000 in
theorem cv60 {gh : sxGh} (hg : sxGd sxKw gh) : sxCtV sxKw gh ct60 := sxMeB_ok (cts := [ct2, ct55, ct15]) (cuts := cu60) (sp := []) 583 (by decide +kernel) hg (by decide) (by decide) (List.forall_mem_cons.mpr ⟨cv2 hg, (List.forall_mem_cons.mpr ⟨cv55 hg, (List.forall_mem_cons.mpr ⟨cv15 hg, (fun _ h => absurd h List.not_mem_nil)⟩)⟩)⟩)
/-- LotBeliefs.TongueReader.readProduct -/
def ct61 : sxCt := (109, 21, (1, [], [], [(0, .inl 1), (1, .inl 23)], [], [(1, (0, .ofNat 7), .inr (false, (0, .ofNat 0)))], [], []), [(1, 4), (1, 5), (1, 6), (1, 7), (1, 8), (1, 9), (1, 10), (23, 3), (24, 0)], [
  (2, [(1, .ofNat 0, .ofNat 4)], [], [], [], [(1, (0, .ofNat 3), .inr (false, (1, .ofNat 0))), (1, (0, .ofNat 7), .inr (false, (0, .ofNat 0)))], [], [])], [], 0, 0)
def cu61 : List sxCu := [
  (7, (3, [(1, .ofNat 0, .ofNat 200), (2, .ofNat 0, .ofNat 4)], [], [(0, .inl 1), (1, .inl 23), (2, .inr (false, (1, .ofNat 0)))], [], [(1, (0, .ofNat 3), .inr (false, (2, .ofNat 0))), (1, (0, .ofNat 7), .inr (false, (0, .ofNat 0)))], [], []), ((0, 1, .ofNat 200), (0, 0, .ofNat 0), (0, 0, .ofNat 0)), 0, 0)]
set_option maxRecDepth 1000000 in
theorem cv61 {gh : sxGh} (hg : sxGd sxKw gh) : sxCtV sxKw gh ct61 := sxMeB_ok (cts := [ct2, ct60]) (cuts := cu61) (sp := []) 127 (by decide +kernel) hg (by decide) (by decide) (List.forall_mem_cons.mpr ⟨cv2 hg, (List.forall_mem_cons.mpr ⟨cv60 hg, (fun _ h => absurd h List.not_mem_nil)⟩)⟩)
/-- LotBeliefs.TongueReader.readSum -/
def ct62 : sxCt := (108, 22, (1, [], [], [(0, .inl 1), (1, .inl 23)], [], [(1, (0, .ofNat 7), .inr (false, (0, .ofNat 0)))], [], []), [(1, 4), (1, 5), (1, 6), (1, 7), (1, 8), (1, 9), (1, 10), (23, 3), (24, 0)], [
  (2, [(1, .ofNat 0, .ofNat 4)], [], [], [], [(1, (0, .ofNat 3), .inr (false, (1, .ofNat 0))), (1, (0, .ofNat 7), .inr (false, (0, .ofNat 0)))], [], [])], [], 0, 0)
def cu62 : List sxCu := [
  (7, (3, [(1, .ofNat 0, .ofNat 200), (2, .ofNat 0, .ofNat 4)], [], [(0, .inl 1), (1, .inl 23), (2, .inr (false, (1, .ofNat 0)))], [], [(1, (0, .ofNat 3), .inr (false, (2, .ofNat 0))), (1, (0, .ofNat 7), .inr (false, (0, .ofNat 0)))], [], []), ((0, 1, .ofNat 200), (0, 0, .ofNat 0), (0, 0, .ofNat 0)), 0, 0)]
set_option maxRecDepth 1000000 in
theorem cv62 {gh : sxGh} (hg : sxGd sxKw gh) : sxCtV sxKw gh ct62 := sxMeB_ok (cts := [ct2, ct61]) (cuts := cu62) (sp := []) 285 (by decide +kernel) hg (by decide) (by decide) (List.forall_mem_cons.mpr ⟨cv2 hg, (List.forall_mem_cons.mpr ⟨cv61 hg, (fun _ h => absurd h List.not_mem_nil)⟩)⟩)
/-- LotBeliefs.TongueReader.readRelation -/
def ct63 : sxCt := (107, 23, (1, [], [], [(0, .inl 1), (1, .inl 23)], [], [(1, (0, .ofNat 7), .inr (false, (0, .ofNat 0)))], [], []), [(1, 4), (1, 5), (1, 6), (1, 7), (1, 8), (1, 9), (1, 10), (23, 3), (24, 0)], [
  (3, [(1, .ofNat 0, .ofNat 4), (2, .ofNat 1, .ofNat 201)], [], [], [], [(1, (0, .ofNat 3), .inr (false, (1, .ofNat 0))), (1, (0, .ofNat 7), .inr (false, (0, .ofNat 0))), (23, (0, .ofNat 2), .inr (false, (2, .ofNat 0)))], [], [])], [], 0, 0)
def cu63 : List sxCu := []
set_option maxRecDepth 1000000 in
theorem cv63 {gh : sxGh} (hg : sxGd sxKw gh) : sxCtV sxKw gh ct63 := sxMeB_ok (cts := [ct2, ct62]) (cuts := cu63) (sp := []) 617 (by decide +kernel) hg (by decide) (by decide) (List.forall_mem_cons.mpr ⟨cv2 hg, (List.forall_mem_cons.mpr ⟨cv62 hg, (fun _ h => absurd h List.not_mem_nil)⟩)⟩)
/-- LotBeliefs.TongueReader.readPart -/
def ct64 : sxCt := (106, 24, (1, [], [], [(0, .inl 1), (1, .inl 23)], [], [(1, (0, .ofNat 7), .inr (false, (0, .ofNat 0)))], [], []), [(1, 4), (1, 5), (1, 6), (1, 7), (1, 8), (1, 9), (1, 10), (23, 3), (24, 0)], [
  (2, [(1, .ofNat 0, .ofNat 4)], [], [], [], [(1, (0, .ofNat 3), .inr (false, (1, .ofNat 0))), (1, (0, .ofNat 7), .inr (false, (0, .ofNat 0)))], [], [])], [], 0, 0)
def cu64 : List sxCu := []
set_option maxRecDepth 1000000 in
theorem cv64 {gh : sxGh} (hg : sxGd sxKw gh) : sxCtV sxKw gh ct64 := sxMeB_ok (cts := [ct2, ct4, ct59, ct57, ct63]) (cuts := cu64) (sp := []) 290 (by decide +kernel) hg (by decide) (by decide) (List.forall_mem_cons.mpr ⟨cv2 hg, (List.forall_mem_cons.mpr ⟨cv4 hg, (List.forall_mem_cons.mpr ⟨cv59 hg, (List.forall_mem_cons.mpr ⟨cv57 hg, (List.forall_mem_cons.mpr ⟨cv63 hg, (fun _ h => absurd h List.not_mem_nil)⟩)⟩)⟩)⟩)⟩)
/-- LotBeliefs.TongueReader.readEach -/
def ct65 : sxCt := (105, 25, (1, [], [], [(0, .inl 1), (1, .inl 23)], [], [(1, (0, .ofNat 7), .inr (false, (0, .ofNat 0)))], [], []), [(1, 4), (1, 5), (1, 6), (1, 7), (1, 8), (1, 9), (1, 10), (23, 3), (24, 0)], [
  (2, [(1, .ofNat 0, .ofNat 4)], [], [], [], [(1, (0, .ofNat 3), .inr (false, (1, .ofNat 0))), (1, (0, .ofNat 7), .inr (false, (0, .ofNat 0)))], [], [])], [], 0, 0)
def cu65 : List sxCu := [
  (7, (3, [(1, .ofNat 0, .ofNat 200), (2, .ofNat 0, .ofNat 4)], [], [(0, .inl 1), (1, .inl 23), (2, .inr (false, (1, .ofNat 0)))], [], [(1, (0, .ofNat 3), .inr (false, (2, .ofNat 0))), (1, (0, .ofNat 7), .inr (false, (0, .ofNat 0)))], [], []), ((0, 1, .ofNat 200), (0, 0, .ofNat 0), (0, 0, .ofNat 0)), 0, 0)]
set_option maxRecDepth 1000000 in
theorem cv65 {gh : sxGh} (hg : sxGd sxKw gh) : sxCtV sxKw gh ct65 := sxMeB_ok (cts := [ct2, ct21, ct64]) (cuts := cu65) (sp := []) 111 (by decide +kernel) hg (by decide) (by decide) (List.forall_mem_cons.mpr ⟨cv2 hg, (List.forall_mem_cons.mpr ⟨cv21 hg, (List.forall_mem_cons.mpr ⟨cv64 hg, (fun _ h => absurd h List.not_mem_nil)⟩)⟩)⟩)
/-- LotBeliefs.TongueReader.readEither -/
def ct66 : sxCt := (104, 26, (1, [], [], [(0, .inl 1), (1, .inl 23)], [], [(1, (0, .ofNat 7), .inr (false, (0, .ofNat 0)))], [], []), [(1, 4), (1, 5), (1, 6), (1, 7), (1, 8), (1, 9), (1, 10), (23, 3), (24, 0)], [
  (2, [(1, .ofNat 0, .ofNat 4)], [], [], [], [(1, (0, .ofNat 3), .inr (false, (1, .ofNat 0))), (1, (0, .ofNat 7), .inr (false, (0, .ofNat 0)))], [], [])], [], 0, 0)
def cu66 : List sxCu := [
  (7, (3, [(1, .ofNat 0, .ofNat 200), (2, .ofNat 0, .ofNat 4)], [], [(0, .inl 1), (1, .inl 23), (2, .inr (false, (1, .ofNat 0)))], [], [(1, (0, .ofNat 3), .inr (false, (2, .ofNat 0))), (1, (0, .ofNat 7), .inr (false, (0, .ofNat 0)))], [], []), ((0, 1, .ofNat 200), (0, 0, .ofNat 0), (0, 0, .ofNat 0)), 0, 0)]
set_option maxRecDepth 1000000 in
theorem cv66 {gh : sxGh} (hg : sxGd sxKw gh) : sxCtV sxKw gh ct66 := sxMeB_ok (cts := [ct2, ct23, ct65]) (cuts := cu66) (sp := []) 111 (by decide +kernel) hg (by decide) (by decide) (List.forall_mem_cons.mpr ⟨cv2 hg, (List.forall_mem_cons.mpr ⟨cv23 hg, (List.forall_mem_cons.mpr ⟨cv65 hg, (fun _ h => absurd h List.not_mem_nil)⟩)⟩)⟩)
/-- LotBeliefs.Tape.isWord -/
def ct67 : sxCt := (85, 0, (1, [], [], [(0, .inl 1), (1, .inl 1000013)], [], [], [], []), [], [
  (1, [], [], [], [.inr (false, (0, .ofNat 0))], [], [], []), 
  (1, [], [], [], [.inr (false, (0, .ofNat 1))], [], [], [])], [], 0, 0)
def cu67 : List sxCu := []
set_option maxRecDepth 1000000 in
theorem cv67 {gh : sxGh} (hg : sxGd sxKw gh) : sxCtV sxKw gh ct67 := sxMeB_ok (cts := []) (cuts := cu67) (sp := []) 174 (by decide +kernel) hg (by decide) (by decide) (fun _ h => absurd h List.not_mem_nil)
/-- LotBeliefs.Tape.isWord -/
def ct68 : sxCt := (85, 0, (1, [], [], [(0, .inl 1), (1, .inl 1000014)], [], [], [], []), [], [
  (1, [], [], [], [.inr (false, (0, .ofNat 0))], [], [], []), 
  (1, [], [], [], [.inr (false, (0, .ofNat 1))], [], [], [])], [], 0, 0)
def cu68 : List sxCu := []
set_option maxRecDepth 1000000 in
theorem cv68 {gh : sxGh} (hg : sxGd sxKw gh) : sxCtV sxKw gh ct68 := sxMeB_ok (cts := []) (cuts := cu68) (sp := []) 174 (by decide +kernel) hg (by decide) (by decide) (fun _ h => absurd h List.not_mem_nil)
/-- LotBeliefs.TongueReader.read -/
def ct69 : sxCt := (102, 27, (1, [], [], [(0, .inl 1), (1, .inl 23)], [], [(1, (0, .ofNat 7), .inr (false, (0, .ofNat 0)))], [], []), [(1, 4), (1, 5), (1, 6), (1, 7), (1, 8), (1, 9), (1, 10), (23, 1), (23, 3), (24, 0)], [
  (3, [(1, .ofNat 0, .ofNat 10), (2, .ofNat 0, .ofNat 201)], [(2, 1, .ofNat 200)], [], [], [(1, (0, .ofNat 7), .inr (false, (0, .ofNat 0))), (23, (0, .ofNat 0), .inr (false, (1, .ofNat 0))), (23, (0, .ofNat 2), .inr (false, (2, .ofNat 0)))], [], [])], [], 0, 0)
def cu69 : List sxCu := [
  (6, (4, [(1, .ofNat 0, .ofNat 200), (2, .ofNat 0, .ofNat 10), (3, .ofNat 0, .ofNat 201)], [(2, 1, .ofNat 0), (3, 1, .ofNat 200), (3, 2, .ofNat 200)], [(0, .inl 1), (1, .inl 23), (2, .inr (false, (1, .ofNat 0)))], [], [(1, (0, .ofNat 7), .inr (false, (0, .ofNat 0))), (23, (0, .ofNat 0), .inr (false, (2, .ofNat 0))), (23, (0, .ofNat 2), .inr (false, (3, .ofNat 0)))], [], []), ((0, 1, .ofNat 200), (0, 0, .ofNat 0), (0, 0, .ofNat 0)), 0, 0)]
set_option maxRecDepth 1000000 in
theorem cv69 {gh : sxGh} (hg : sxGd sxKw gh) : sxCtV sxKw gh ct69 := sxMeB_ok (cts := [ct2, ct67, ct3, ct68, ct66]) (cuts := cu69) (sp := []) 957 (by decide +kernel) hg (by decide) (by decide) (List.forall_mem_cons.mpr ⟨cv2 hg, (List.forall_mem_cons.mpr ⟨cv67 hg, (List.forall_mem_cons.mpr ⟨cv3 hg, (List.forall_mem_cons.mpr ⟨cv68 hg, (List.forall_mem_cons.mpr ⟨cv66 hg, (fun _ h => absurd h List.not_mem_nil)⟩)⟩)⟩)⟩)⟩)
/-- LotBeliefs.forgetSurveys -/
def ct70 : sxCt := (191, 0, (1, [], [], [(0, .inl 0)], [], [], [], []), [(58, 2), (62, 2), (66, 2), (70, 2), (74, 2)], [
  (1, [], [], [], [], [], [], [])], [], 0, 0)
def cu70 : List sxCu := [
  (2, (2, [(1, .ofNat 0, .ofNat 5)], [], [(0, .inl 0), (1, .inr (false, (1, .ofNat 0)))], [], [], [], []), ((0, 1, .ofNat 5), (0, 0, .ofNat 0), (0, 0, .ofNat 0)), 0, 0)]
set_option maxRecDepth 1000000 in
theorem cv70 {gh : sxGh} (hg : sxGd sxKw gh) : sxCtV sxKw gh ct70 := sxMeB_ok (cts := []) (cuts := cu70) (sp := []) 92 (by decide +kernel) hg (by decide) (by decide) (fun _ h => absurd h List.not_mem_nil)
/-- LotBeliefs.TongueReader.readValue -/
def ct71 : sxCt := (110, 2, (1, [], [], [(0, .inl 1), (1, .inl 19)], [], [(1, (0, .ofNat 7), .inr (false, (0, .ofNat 6)))], [], []), [(1, 4), (1, 5), (1, 6), (1, 7), (1, 9), (1, 10), (19, 3), (20, 0)], [
  (2, [(1, .ofNat 0, .ofNat 4)], [], [], [], [(1, (0, .ofNat 3), .inr (false, (1, .ofNat 0))), (1, (0, .ofNat 7), .inr (false, (0, .ofNat 6)))], [], [])], [], 0, 0)
def cu71 : List sxCu := []
set_option maxRecDepth 1000000 in
theorem cv71 {gh : sxGh} (hg : sxGd sxKw gh) : sxCtV sxKw gh ct71 := sxMeB_ok (cts := [ct2, ct15]) (cuts := cu71) (sp := []) 476 (by decide +kernel) hg (by decide) (by decide) (List.forall_mem_cons.mpr ⟨cv2 hg, (List.forall_mem_cons.mpr ⟨cv15 hg, (fun _ h => absurd h List.not_mem_nil)⟩)⟩)
/-- LotBeliefs.TongueReader.readProduct -/
def ct72 : sxCt := (109, 3, (1, [], [], [(0, .inl 1), (1, .inl 19)], [], [(1, (0, .ofNat 7), .inr (false, (0, .ofNat 6)))], [], []), [(1, 4), (1, 5), (1, 6), (1, 7), (1, 9), (1, 10), (19, 3), (20, 0)], [
  (2, [(1, .ofNat 0, .ofNat 4)], [], [], [], [(1, (0, .ofNat 3), .inr (false, (1, .ofNat 0))), (1, (0, .ofNat 7), .inr (false, (0, .ofNat 6)))], [], [])], [], 0, 0)
def cu72 : List sxCu := [
  (7, (3, [(1, .ofNat 0, .ofNat 200), (2, .ofNat 0, .ofNat 4)], [], [(0, .inl 1), (1, .inl 19), (2, .inr (false, (1, .ofNat 0)))], [], [(1, (0, .ofNat 3), .inr (false, (2, .ofNat 0))), (1, (0, .ofNat 7), .inr (false, (0, .ofNat 6)))], [], []), ((0, 1, .ofNat 200), (0, 0, .ofNat 0), (0, 0, .ofNat 0)), 0, 0)]
set_option maxRecDepth 1000000 in
theorem cv72 {gh : sxGh} (hg : sxGd sxKw gh) : sxCtV sxKw gh ct72 := sxMeB_ok (cts := [ct2, ct71]) (cuts := cu72) (sp := []) 127 (by decide +kernel) hg (by decide) (by decide) (List.forall_mem_cons.mpr ⟨cv2 hg, (List.forall_mem_cons.mpr ⟨cv71 hg, (fun _ h => absurd h List.not_mem_nil)⟩)⟩)
/-- LotBeliefs.TongueReader.readSum -/
def ct73 : sxCt := (108, 4, (1, [], [], [(0, .inl 1), (1, .inl 19)], [], [(1, (0, .ofNat 7), .inr (false, (0, .ofNat 6)))], [], []), [(1, 4), (1, 5), (1, 6), (1, 7), (1, 9), (1, 10), (19, 3), (20, 0)], [
  (2, [(1, .ofNat 0, .ofNat 4)], [], [], [], [(1, (0, .ofNat 3), .inr (false, (1, .ofNat 0))), (1, (0, .ofNat 7), .inr (false, (0, .ofNat 6)))], [], [])], [], 0, 0)
def cu73 : List sxCu := [
  (7, (3, [(1, .ofNat 0, .ofNat 200), (2, .ofNat 0, .ofNat 4)], [], [(0, .inl 1), (1, .inl 19), (2, .inr (false, (1, .ofNat 0)))], [], [(1, (0, .ofNat 3), .inr (false, (2, .ofNat 0))), (1, (0, .ofNat 7), .inr (false, (0, .ofNat 6)))], [], []), ((0, 1, .ofNat 200), (0, 0, .ofNat 0), (0, 0, .ofNat 0)), 0, 0)]
set_option maxRecDepth 1000000 in
theorem cv73 {gh : sxGh} (hg : sxGd sxKw gh) : sxCtV sxKw gh ct73 := sxMeB_ok (cts := [ct2, ct72]) (cuts := cu73) (sp := []) 285 (by decide +kernel) hg (by decide) (by decide) (List.forall_mem_cons.mpr ⟨cv2 hg, (List.forall_mem_cons.mpr ⟨cv72 hg, (fun _ h => absurd h List.not_mem_nil)⟩)⟩)
end SXC
