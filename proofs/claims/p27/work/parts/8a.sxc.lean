/-! SX: contracts, by program -/
section SXC
/-- LotBeliefsModel.ones -/
def ct0 : sxCt := (225, 0, (2, [(1, .negSucc 9223372036854775807, .ofNat 9223372036854775807)], [], [(0, .inr (true, (1, .ofNat 0)))], [], [], [], []), [], [
  (3, [(2, .negSucc 2147483647, .ofNat 2147483647)], [], [], [.inr (false, (2, .ofNat 0))], [], [], [])], [], 0, 0)
def cu0 : List sxCu := [
  (4, (4, [(1, .negSucc 9223372036854775807, .ofNat 9223372036854775807), (2, .negSucc 2147483647, .ofNat 2147483647), (3, .ofNat 0, .ofNat 64)], [], [(0, .inr (true, (1, .ofNat 0))), (2, .inr (false, (2, .ofNat 0))), (3, .inr (false, (3, .ofNat 0)))], [], [], [], []), ((0, 3, .ofNat 64), (0, 0, .ofNat 0), (0, 0, .ofNat 0)), 0, 0)]
set_option maxRecDepth 1000000 in
theorem cv0 {gh : sxGh} (hg : sxGd sxKw gh) : sxCtV sxKw gh ct0 := sxMeB_ok (cts := []) (cuts := cu0) (sp := []) 80 (by decide +kernel) hg (by decide) (by decide) (fun _ h => absurd h List.not_mem_nil)
/-- LotBeliefsModel.valueOf -/
def ct1 : sxCt := (237, 1, (2, [(1, .ofNat 0, .ofNat 999)], [], [(0, .inl 78), (1, .inr (false, (1, .ofNat 0)))], [], [], [], []), [], [
  (3, [(2, .negSucc 2147483647, .ofNat 2147483647)], [], [], [.inr (false, (2, .ofNat 0))], [], [], [])], [], 0, 0)
def cu1 : List sxCu := []
set_option maxRecDepth 1000000 in
theorem cv1 {gh : sxGh} (hg : sxGd sxKw gh) : sxCtV sxKw gh ct1 := sxMeB_ok (cts := [ct0]) (cuts := cu1) (sp := []) 140 (by decide +kernel) hg (by decide) (by decide) (List.forall_mem_cons.mpr ⟨cv0 hg, (fun _ h => absurd h List.not_mem_nil)⟩)
/-- LotBeliefs.Tape.step -/
def ct2 : sxCt := (83, 0, (1, [], [], [(0, .inl 1)], [], [], [], []), [(1, 4), (1, 5), (1, 6), (1, 7)], [
  (2, [(1, .ofNat 0, .ofNat 4)], [], [], [], [(1, (0, .ofNat 3), .inr (false, (1, .ofNat 0)))], [], [])], [], 0, 0)
def cu2 : List sxCu := [
  (109, (6, [(1, .ofNat 0, .ofNat 600), (2, .ofNat 1, .ofNat 600), (3, .ofNat 0, .ofNat 599), (4, .ofNat 0, .ofNat 599), (5, .ofNat 97, .ofNat 122)], [(3, 1, .ofNat 0), (3, 2, .negSucc 0), (4, 1, .ofNat 0), (4, 2, .negSucc 0), (4, 3, .ofNat 0)], [(0, .inl 1), (1, .inr (false, (1, .ofNat 0)))], [], [(1, (0, .ofNat 0), .inl 2), (1, (0, .ofNat 2), .inr (false, (2, .ofNat 0))), (1, (0, .ofNat 3), .inr (false, (0, .ofNat 1))), (1, (0, .ofNat 4), .inr (false, (3, .ofNat 0))), (1, (0, .ofNat 5), .inr (false, (4, .ofNat 0))), (1, (0, .ofNat 6), .inr (false, (5, .ofNat 0)))], [], []), ((0, 1, .ofNat 1201), (0, 0, .ofNat 0), (0, 0, .ofNat 0)), 0, 0), 
  (14, (4, [(1, .ofNat 0, .ofNat 600), (2, .ofNat 0, .ofNat 3), (3, .ofNat 0, .ofNat 600)], [(3, 1, .ofNat 0)], [(0, .inl 1), (1, .inr (false, (1, .ofNat 0)))], [], [(1, (0, .ofNat 3), .inr (false, (2, .ofNat 0))), (1, (0, .ofNat 5), .inr (false, (3, .ofNat 0)))], [], []), ((0, 1, .ofNat 1802), (0, 0, .ofNat 0), (0, 0, .ofNat 0)), 0, 0), 
  (173, (6, [(1, .ofNat 0, .ofNat 600), (2, .ofNat 1, .ofNat 600), (3, .ofNat 0, .ofNat 599), (4, .ofNat 0, .ofNat 599), (5, .ofNat 0, .ofNat 1000000)], [(3, 1, .ofNat 0), (3, 2, .negSucc 0), (4, 1, .ofNat 0), (4, 2, .negSucc 0), (4, 3, .ofNat 0)], [(0, .inl 1), (1, .inr (false, (1, .ofNat 0)))], [], [(1, (0, .ofNat 0), .inl 2), (1, (0, .ofNat 2), .inr (false, (2, .ofNat 0))), (1, (0, .ofNat 3), .inr (false, (0, .ofNat 2))), (1, (0, .ofNat 4), .inr (false, (3, .ofNat 0))), (1, (0, .ofNat 5), .inr (false, (4, .ofNat 0))), (1, (0, .ofNat 6), .inr (false, (5, .ofNat 0)))], [], []), ((0, 1, .ofNat 600), (0, 0, .ofNat 0), (0, 0, .ofNat 0)), 0, 0)]
set_option maxRecDepth 1000000 in
theorem cv2 {gh : sxGh} (hg : sxGd sxKw gh) : sxCtV sxKw gh ct2 := sxMeB_ok (cts := []) (cuts := cu2) (sp := []) 257 (by decide +kernel) hg (by decide) (by decide) (fun _ h => absurd h List.not_mem_nil)
/-- LotBeliefs.Tape.isWord -/
def ct3 : sxCt := (85, 0, (1, [], [], [(0, .inl 1), (1, .inl 1000002)], [], [], [], []), [], [
  (1, [], [], [], [.inr (false, (0, .ofNat 0))], [], [], []), 
  (1, [], [], [], [.inr (false, (0, .ofNat 1))], [], [], [])], [], 0, 0)
def cu3 : List sxCu := []
set_option maxRecDepth 1000000 in
theorem cv3 {gh : sxGh} (hg : sxGd sxKw gh) : sxCtV sxKw gh ct3 := sxMeB_ok (cts := []) (cuts := cu3) (sp := []) 174 (by decide +kernel) hg (by decide) (by decide) (fun _ h => absurd h List.not_mem_nil)
/-- LotBeliefs.Sentence.readNot -/
def ct4 : sxCt := (44, 2, (1, [], [], [(0, .inl 1), (1, .inl 11)], [], [(1, (0, .ofNat 7), .inr (false, (0, .ofNat 6)))], [], []), [(1, 4), (1, 9), (1, 10)], [
  (1, [], [], [], [.inr (true, (0, .ofNat 0))], [(1, (0, .ofNat 3), .inr (false, (0, .ofNat 4))), (1, (0, .ofNat 7), .inr (false, (0, .ofNat 6)))], [], [])], [], 0, 0)
def cu4 : List sxCu := []
set_option maxRecDepth 1000000 in
theorem cv4 {gh : sxGh} (hg : sxGd sxKw gh) : sxCtV sxKw gh ct4 := sxMeB_ok (cts := []) (cuts := cu4) (sp := []) 95 (by decide +kernel) hg (by decide) (by decide) (fun _ h => absurd h List.not_mem_nil)
/-- LotBeliefs.Tape.isWord -/
def ct5 : sxCt := (85, 0, (1, [], [], [(0, .inl 1), (1, .inl 1000003)], [], [], [], []), [], [
  (1, [], [], [], [.inr (false, (0, .ofNat 0))], [], [], []), 
  (1, [], [], [], [.inr (false, (0, .ofNat 1))], [], [], [])], [], 0, 0)
def cu5 : List sxCu := []
set_option maxRecDepth 1000000 in
theorem cv5 {gh : sxGh} (hg : sxGd sxKw gh) : sxCtV sxKw gh ct5 := sxMeB_ok (cts := []) (cuts := cu5) (sp := []) 144 (by decide +kernel) hg (by decide) (by decide) (fun _ h => absurd h List.not_mem_nil)
/-- LotBeliefs.Sentence.readIf -/
def ct6 : sxCt := (45, 2, (1, [], [], [(0, .inl 1), (1, .inl 11)], [], [(1, (0, .ofNat 7), .inr (false, (0, .ofNat 6)))], [], []), [(1, 4), (1, 9), (1, 10)], [
  (1, [], [], [], [.inr (true, (0, .ofNat 0))], [(1, (0, .ofNat 3), .inr (false, (0, .ofNat 4))), (1, (0, .ofNat 7), .inr (false, (0, .ofNat 6)))], [], [])], [], 0, 0)
def cu6 : List sxCu := []
set_option maxRecDepth 1000000 in
theorem cv6 {gh : sxGh} (hg : sxGd sxKw gh) : sxCtV sxKw gh ct6 := sxMeB_ok (cts := []) (cuts := cu6) (sp := []) 95 (by decide +kernel) hg (by decide) (by decide) (fun _ h => absurd h List.not_mem_nil)
/-- LotBeliefs.Sentence.readBrackets -/
def ct7 : sxCt := (46, 2, (1, [], [], [(0, .inl 1), (1, .inl 11)], [], [(1, (0, .ofNat 7), .inr (false, (0, .ofNat 6)))], [], []), [(1, 4), (1, 9), (1, 10)], [
  (1, [], [], [], [.inr (true, (0, .ofNat 0))], [(1, (0, .ofNat 3), .inr (false, (0, .ofNat 4))), (1, (0, .ofNat 7), .inr (false, (0, .ofNat 6)))], [], [])], [], 0, 0)
def cu7 : List sxCu := []
set_option maxRecDepth 1000000 in
theorem cv7 {gh : sxGh} (hg : sxGd sxKw gh) : sxCtV sxKw gh ct7 := sxMeB_ok (cts := []) (cuts := cu7) (sp := []) 95 (by decide +kernel) hg (by decide) (by decide) (fun _ h => absurd h List.not_mem_nil)
/-- LotBeliefs.Sentence.readAtom -/
def ct8 : sxCt := (47, 1, (1, [], [], [(0, .inl 1), (1, .inl 11)], [], [(1, (0, .ofNat 7), .inr (false, (0, .ofNat 6)))], [], []), [(1, 4), (1, 5), (1, 6), (1, 7), (1, 9), (1, 10)], [
  (3, [(1, .negSucc 9223372036854775807, .ofNat 9223372036854775807), (2, .ofNat 0, .ofNat 4)], [], [], [.inr (true, (1, .ofNat 0))], [(1, (0, .ofNat 3), .inr (false, (2, .ofNat 0))), (1, (0, .ofNat 7), .inr (false, (0, .ofNat 6)))], [], [])], [], 0, 0)
def cu8 : List sxCu := []
set_option maxRecDepth 1000000 in
theorem cv8 {gh : sxGh} (hg : sxGd sxKw gh) : sxCtV sxKw gh ct8 := sxMeB_ok (cts := [ct2]) (cuts := cu8) (sp := []) 222 (by decide +kernel) hg (by decide) (by decide) (List.forall_mem_cons.mpr ⟨cv2 hg, (fun _ h => absurd h List.not_mem_nil)⟩)
/-- LotBeliefs.Sentence.readPart -/
def ct9 : sxCt := (43, 3, (1, [], [], [(0, .inl 1), (1, .inl 11)], [], [(1, (0, .ofNat 7), .inr (false, (0, .ofNat 6)))], [], []), [(1, 4), (1, 5), (1, 6), (1, 7), (1, 9), (1, 10)], [
  (3, [(1, .negSucc 9223372036854775807, .ofNat 9223372036854775807), (2, .ofNat 0, .ofNat 4)], [], [], [.inr (true, (1, .ofNat 0))], [(1, (0, .ofNat 3), .inr (false, (2, .ofNat 0))), (1, (0, .ofNat 7), .inr (false, (0, .ofNat 6)))], [], [])], [], 0, 0)
def cu9 : List sxCu := []
set_option maxRecDepth 1000000 in
theorem cv9 {gh : sxGh} (hg : sxGd sxKw gh) : sxCtV sxKw gh ct9 := sxMeB_ok (cts := [ct4, ct6, ct7, ct8, ct3, ct5]) (cuts := cu9) (sp := []) 118 (by decide +kernel) hg (by decide) (by decide) (List.forall_mem_cons.mpr ⟨cv4 hg, (List.forall_mem_cons.mpr ⟨cv6 hg, (List.forall_mem_cons.mpr ⟨cv7 hg, (List.forall_mem_cons.mpr ⟨cv8 hg, (List.forall_mem_cons.mpr ⟨cv3 hg, (List.forall_mem_cons.mpr ⟨cv5 hg, (fun _ h => absurd h List.not_mem_nil)⟩)⟩)⟩)⟩)⟩)⟩)
/-- LotBeliefs.Sentence.readNot -/
def ct10 : sxCt := (44, 4, (1, [], [], [(0, .inl 1), (1, .inl 11)], [], [(1, (0, .ofNat 7), .inr (false, (0, .ofNat 5)))], [], []), [(1, 4), (1, 5), (1, 6), (1, 7), (1, 8), (1, 9), (1, 10)], [
  (3, [(1, .negSucc 9223372036854775807, .ofNat 9223372036854775807), (2, .ofNat 0, .ofNat 4)], [], [], [.inr (true, (1, .ofNat 0))], [(1, (0, .ofNat 3), .inr (false, (2, .ofNat 0))), (1, (0, .ofNat 7), .inr (false, (0, .ofNat 5)))], [], [])], [], 0, 0)
def cu10 : List sxCu := []
set_option maxRecDepth 1000000 in
theorem cv10 {gh : sxGh} (hg : sxGd sxKw gh) : sxCtV sxKw gh ct10 := sxMeB_ok (cts := [ct9, ct2]) (cuts := cu10) (sp := []) 99 (by decide +kernel) hg (by decide) (by decide) (List.forall_mem_cons.mpr ⟨cv9 hg, (List.forall_mem_cons.mpr ⟨cv2 hg, (fun _ h => absurd h List.not_mem_nil)⟩)⟩)
/-- LotBeliefs.Tape.isWord -/
def ct11 : sxCt := (85, 0, (1, [], [], [(0, .inl 1), (1, .inl 1000004)], [], [], [], []), [], [
  (1, [], [], [], [.inr (false, (0, .ofNat 0))], [], [], []), 
  (1, [], [], [], [.inr (false, (0, .ofNat 1))], [], [], [])], [], 0, 0)
def cu11 : List sxCu := []
set_option maxRecDepth 1000000 in
theorem cv11 {gh : sxGh} (hg : sxGd sxKw gh) : sxCtV sxKw gh ct11 := sxMeB_ok (cts := []) (cuts := cu11) (sp := []) 204 (by decide +kernel) hg (by decide) (by decide) (fun _ h => absurd h List.not_mem_nil)
/-- LotBeliefs.Sentence.readIf -/
def ct12 : sxCt := (45, 4, (1, [], [], [(0, .inl 1), (1, .inl 11)], [], [(1, (0, .ofNat 7), .inr (false, (0, .ofNat 5)))], [], []), [(1, 4), (1, 5), (1, 6), (1, 7), (1, 8), (1, 9), (1, 10)], [
  (3, [(1, .negSucc 9223372036854775807, .ofNat 9223372036854775807), (2, .ofNat 0, .ofNat 4)], [], [], [.inr (true, (1, .ofNat 0))], [(1, (0, .ofNat 3), .inr (false, (2, .ofNat 0))), (1, (0, .ofNat 7), .inr (false, (0, .ofNat 5)))], [], [])], [], 0, 0)
def cu12 : List sxCu := []
set_option maxRecDepth 1000000 in
theorem cv12 {gh : sxGh} (hg : sxGd sxKw gh) : sxCtV sxKw gh ct12 := sxMeB_ok (cts := [ct9, ct2, ct11]) (cuts := cu12) (sp := []) 177 (by decide +kernel) hg (by decide) (by decide) (List.forall_mem_cons.mpr ⟨cv9 hg, (List.forall_mem_cons.mpr ⟨cv2 hg, (List.forall_mem_cons.mpr ⟨cv11 hg, (fun _ h => absurd h List.not_mem_nil)⟩)⟩)⟩)
/-- LotBeliefs.Tape.isWord -/
def ct13 : sxCt := (85, 0, (1, [], [], [(0, .inl 1), (1, .inl 1000005)], [], [], [], []), [], [
  (1, [], [], [], [.inr (false, (0, .ofNat 0))], [], [], []), 
  (1, [], [], [], [.inr (false, (0, .ofNat 1))], [], [], [])], [], 0, 0)
def cu13 : List sxCu := []
set_option maxRecDepth 1000000 in
theorem cv13 {gh : sxGh} (hg : sxGd sxKw gh) : sxCtV sxKw gh ct13 := sxMeB_ok (cts := []) (cuts := cu13) (sp := []) 174 (by decide +kernel) hg (by decide) (by decide) (fun _ h => absurd h List.not_mem_nil)
/-- LotBeliefs.Sentence.readEach -/
def ct14 : sxCt := (42, 4, (1, [], [], [(0, .inl 1), (1, .inl 11)], [], [(1, (0, .ofNat 7), .inr (false, (0, .ofNat 6)))], [], []), [(1, 4), (1, 5), (1, 6), (1, 7), (1, 9), (1, 10)], [
  (3, [(1, .negSucc 9223372036854775807, .ofNat 9223372036854775807), (2, .ofNat 0, .ofNat 4)], [], [], [.inr (true, (1, .ofNat 0))], [(1, (0, .ofNat 3), .inr (false, (2, .ofNat 0))), (1, (0, .ofNat 7), .inr (false, (0, .ofNat 6)))], [], [])], [], 0, 0)
def cu14 : List sxCu := [
  (9, (4, [(1, .negSucc 9223372036854775807, .ofNat 9223372036854775807), (2, .ofNat 0, .ofNat 600), (3, .ofNat 0, .ofNat 4)], [], [(0, .inl 1), (1, .inl 11), (2, .inr (true, (1, .ofNat 0))), (4, .inr (false, (2, .ofNat 0)))], [], [(1, (0, .ofNat 3), .inr (false, (3, .ofNat 0))), (1, (0, .ofNat 7), .inr (false, (0, .ofNat 6)))], [], []), ((0, 2, .ofNat 600), (0, 0, .ofNat 0), (0, 0, .ofNat 0)), 0, 0)]
set_option maxRecDepth 1000000 in
theorem cv14 {gh : sxGh} (hg : sxGd sxKw gh) : sxCtV sxKw gh ct14 := sxMeB_ok (cts := [ct9, ct2, ct13]) (cuts := cu14) (sp := []) 92 (by decide +kernel) hg (by decide) (by decide) (List.forall_mem_cons.mpr ⟨cv9 hg, (List.forall_mem_cons.mpr ⟨cv2 hg, (List.forall_mem_cons.mpr ⟨cv13 hg, (fun _ h => absurd h List.not_mem_nil)⟩)⟩)⟩)
/-- LotBeliefs.Tape.isWord -/
def ct15 : sxCt := (85, 0, (1, [], [], [(0, .inl 1), (1, .inl 1000006)], [], [], [], []), [], [
  (1, [], [], [], [.inr (false, (0, .ofNat 0))], [], [], []), 
  (1, [], [], [], [.inr (false, (0, .ofNat 1))], [], [], [])], [], 0, 0)
def cu15 : List sxCu := []
set_option maxRecDepth 1000000 in
theorem cv15 {gh : sxGh} (hg : sxGd sxKw gh) : sxCtV sxKw gh ct15 := sxMeB_ok (cts := []) (cuts := cu15) (sp := []) 144 (by decide +kernel) hg (by decide) (by decide) (fun _ h => absurd h List.not_mem_nil)
/-- LotBeliefs.Sentence.readEither -/
def ct16 : sxCt := (41, 5, (1, [], [], [(0, .inl 1), (1, .inl 11)], [], [(1, (0, .ofNat 7), .inr (false, (0, .ofNat 6)))], [], []), [(1, 4), (1, 5), (1, 6), (1, 7), (1, 9), (1, 10)], [
  (3, [(1, .negSucc 9223372036854775807, .ofNat 9223372036854775807), (2, .ofNat 0, .ofNat 4)], [], [], [.inr (true, (1, .ofNat 0))], [(1, (0, .ofNat 3), .inr (false, (2, .ofNat 0))), (1, (0, .ofNat 7), .inr (false, (0, .ofNat 6)))], [], [])], [], 0, 0)
def cu16 : List sxCu := [
  (9, (4, [(1, .negSucc 9223372036854775807, .ofNat 9223372036854775807), (2, .ofNat 0, .ofNat 600), (3, .ofNat 0, .ofNat 4)], [], [(0, .inl 1), (1, .inl 11), (2, .inr (true, (1, .ofNat 0))), (4, .inr (false, (2, .ofNat 0)))], [], [(1, (0, .ofNat 3), .inr (false, (3, .ofNat 0))), (1, (0, .ofNat 7), .inr (false, (0, .ofNat 6)))], [], []), ((0, 2, .ofNat 600), (0, 0, .ofNat 0), (0, 0, .ofNat 0)), 0, 0)]
set_option maxRecDepth 1000000 in
theorem cv16 {gh : sxGh} (hg : sxGd sxKw gh) : sxCtV sxKw gh ct16 := sxMeB_ok (cts := [ct14, ct2, ct15]) (cuts := cu16) (sp := []) 92 (by decide +kernel) hg (by decide) (by decide) (List.forall_mem_cons.mpr ⟨cv14 hg, (List.forall_mem_cons.mpr ⟨cv2 hg, (List.forall_mem_cons.mpr ⟨cv15 hg, (fun _ h => absurd h List.not_mem_nil)⟩)⟩)⟩)
/-- LotBeliefs.Sentence.readBrackets -/
def ct17 : sxCt := (46, 6, (1, [], [], [(0, .inl 1), (1, .inl 11)], [], [(1, (0, .ofNat 7), .inr (false, (0, .ofNat 5)))], [], []), [(1, 4), (1, 5), (1, 6), (1, 7), (1, 8), (1, 9), (1, 10)], [
  (3, [(1, .negSucc 9223372036854775807, .ofNat 9223372036854775807), (2, .ofNat 0, .ofNat 4)], [], [], [.inr (true, (1, .ofNat 0))], [(1, (0, .ofNat 3), .inr (false, (2, .ofNat 0))), (1, (0, .ofNat 7), .inr (false, (0, .ofNat 5)))], [], [])], [], 0, 0)
def cu17 : List sxCu := []
set_option maxRecDepth 1000000 in
theorem cv17 {gh : sxGh} (hg : sxGd sxKw gh) : sxCtV sxKw gh ct17 := sxMeB_ok (cts := [ct16, ct2]) (cuts := cu17) (sp := []) 196 (by decide +kernel) hg (by decide) (by decide) (List.forall_mem_cons.mpr ⟨cv16 hg, (List.forall_mem_cons.mpr ⟨cv2 hg, (fun _ h => absurd h List.not_mem_nil)⟩)⟩)
/-- LotBeliefs.Sentence.readAtom -/
def ct18 : sxCt := (47, 1, (1, [], [], [(0, .inl 1), (1, .inl 11)], [], [(1, (0, .ofNat 7), .inr (false, (0, .ofNat 5)))], [], []), [(1, 4), (1, 5), (1, 6), (1, 7), (1, 9), (1, 10)], [
  (3, [(1, .negSucc 9223372036854775807, .ofNat 9223372036854775807), (2, .ofNat 0, .ofNat 4)], [], [], [.inr (true, (1, .ofNat 0))], [(1, (0, .ofNat 3), .inr (false, (2, .ofNat 0))), (1, (0, .ofNat 7), .inr (false, (0, .ofNat 5)))], [], [])], [], 0, 0)
def cu18 : List sxCu := []
set_option maxRecDepth 1000000 in
theorem cv18 {gh : sxGh} (hg : sxGd sxKw gh) : sxCtV sxKw gh ct18 := sxMeB_ok (cts := [ct2]) (cuts := cu18) (sp := []) 222 (by decide +kernel) hg (by decide) (by decide) (List.forall_mem_cons.mpr ⟨cv2 hg, (fun _ h => absurd h List.not_mem_nil)⟩)
/-- LotBeliefs.Sentence.readPart -/
def ct19 : sxCt := (43, 7, (1, [], [], [(0, .inl 1), (1, .inl 11)], [], [(1, (0, .ofNat 7), .inr (false, (0, .ofNat 5)))], [], []), [(1, 4), (1, 5), (1, 6), (1, 7), (1, 8), (1, 9), (1, 10)], [
  (3, [(1, .negSucc 9223372036854775807, .ofNat 9223372036854775807), (2, .ofNat 0, .ofNat 4)], [], [], [.inr (true, (1, .ofNat 0))], [(1, (0, .ofNat 3), .inr (false, (2, .ofNat 0))), (1, (0, .ofNat 7), .inr (false, (0, .ofNat 5)))], [], [])], [], 0, 0)
def cu19 : List sxCu := []
set_option maxRecDepth 1000000 in
theorem cv19 {gh : sxGh} (hg : sxGd sxKw gh) : sxCtV sxKw gh ct19 := sxMeB_ok (cts := [ct10, ct12, ct17, ct18, ct3, ct5]) (cuts := cu19) (sp := []) 118 (by decide +kernel) hg (by decide) (by decide) (List.forall_mem_cons.mpr ⟨cv10 hg, (List.forall_mem_cons.mpr ⟨cv12 hg, (List.forall_mem_cons.mpr ⟨cv17 hg, (List.forall_mem_cons.mpr ⟨cv18 hg, (List.forall_mem_cons.mpr ⟨cv3 hg, (List.forall_mem_cons.mpr ⟨cv5 hg, (fun _ h => absurd h List.not_mem_nil)⟩)⟩)⟩)⟩)⟩)⟩)
/-- LotBeliefs.Sentence.readNot -/
def ct20 : sxCt := (44, 8, (1, [], [], [(0, .inl 1), (1, .inl 11)], [], [(1, (0, .ofNat 7), .inr (false, (0, .ofNat 4)))], [], []), [(1, 4), (1, 5), (1, 6), (1, 7), (1, 8), (1, 9), (1, 10)], [
  (3, [(1, .negSucc 9223372036854775807, .ofNat 9223372036854775807), (2, .ofNat 0, .ofNat 4)], [], [], [.inr (true, (1, .ofNat 0))], [(1, (0, .ofNat 3), .inr (false, (2, .ofNat 0))), (1, (0, .ofNat 7), .inr (false, (0, .ofNat 4)))], [], [])], [], 0, 0)
def cu20 : List sxCu := []
set_option maxRecDepth 1000000 in
theorem cv20 {gh : sxGh} (hg : sxGd sxKw gh) : sxCtV sxKw gh ct20 := sxMeB_ok (cts := [ct19, ct2]) (cuts := cu20) (sp := []) 99 (by decide +kernel) hg (by decide) (by decide) (List.forall_mem_cons.mpr ⟨cv19 hg, (List.forall_mem_cons.mpr ⟨cv2 hg, (fun _ h => absurd h List.not_mem_nil)⟩)⟩)
/-- LotBeliefs.Sentence.readIf -/
def ct21 : sxCt := (45, 8, (1, [], [], [(0, .inl 1), (1, .inl 11)], [], [(1, (0, .ofNat 7), .inr (false, (0, .ofNat 4)))], [], []), [(1, 4), (1, 5), (1, 6), (1, 7), (1, 8), (1, 9), (1, 10)], [
  (3, [(1, .negSucc 9223372036854775807, .ofNat 9223372036854775807), (2, .ofNat 0, .ofNat 4)], [], [], [.inr (true, (1, .ofNat 0))], [(1, (0, .ofNat 3), .inr (false, (2, .ofNat 0))), (1, (0, .ofNat 7), .inr (false, (0, .ofNat 4)))], [], [])], [], 0, 0)
def cu21 : List sxCu := []
set_option maxRecDepth 1000000 in
theorem cv21 {gh : sxGh} (hg : sxGd sxKw gh) : sxCtV sxKw gh ct21 := sxMeB_ok (cts := [ct19, ct2, ct11]) (cuts := cu21) (sp := []) 177 (by decide +kernel) hg (by decide) (by decide) (List.forall_mem_cons.mpr ⟨cv19 hg, (List.forall_mem_cons.mpr ⟨cv2 hg, (List.forall_mem_cons.mpr ⟨cv11 hg, (fun _ h => absurd h List.not_mem_nil)⟩)⟩)⟩)
/-- LotBeliefs.Sentence.readEach -/
def ct22 : sxCt := (42, 8, (1, [], [], [(0, .inl 1), (1, .inl 11)], [], [(1, (0, .ofNat 7), .inr (false, (0, .ofNat 5)))], [], []), [(1, 4), (1, 5), (1, 6), (1, 7), (1, 8), (1, 9), (1, 10)], [
  (3, [(1, .negSucc 9223372036854775807, .ofNat 9223372036854775807), (2, .ofNat 0, .ofNat 4)], [], [], [.inr (true, (1, .ofNat 0))], [(1, (0, .ofNat 3), .inr (false, (2, .ofNat 0))), (1, (0, .ofNat 7), .inr (false, (0, .ofNat 5)))], [], [])], [], 0, 0)
def cu22 : List sxCu := [
  (9, (4, [(1, .negSucc 9223372036854775807, .ofNat 9223372036854775807), (2, .ofNat 0, .ofNat 600), (3, .ofNat 0, .ofNat 4)], [], [(0, .inl 1), (1, .inl 11), (2, .inr (true, (1, .ofNat 0))), (4, .inr (false, (2, .ofNat 0)))], [], [(1, (0, .ofNat 3), .inr (false, (3, .ofNat 0))), (1, (0, .ofNat 7), .inr (false, (0, .ofNat 5)))], [], []), ((0, 2, .ofNat 600), (0, 0, .ofNat 0), (0, 0, .ofNat 0)), 0, 0)]
set_option maxRecDepth 1000000 in
theorem cv22 {gh : sxGh} (hg : sxGd sxKw gh) : sxCtV sxKw gh ct22 := sxMeB_ok (cts := [ct19, ct2, ct13]) (cuts := cu22) (sp := []) 92 (by decide +kernel) hg (by decide) (by decide) (List.forall_mem_cons.mpr ⟨cv19 hg, (List.forall_mem_cons.mpr ⟨cv2 hg, (List.forall_mem_cons.mpr ⟨cv13 hg, (fun _ h => absurd h List.not_mem_nil)⟩)⟩)⟩)
/-- LotBeliefs.Sentence.readEither -/
def ct23 : sxCt := (41, 9, (1, [], [], [(0, .inl 1), (1, .inl 11)], [], [(1, (0, .ofNat 7), .inr (false, (0, .ofNat 5)))], [], []), [(1, 4), (1, 5), (1, 6), (1, 7), (1, 8), (1, 9), (1, 10)], [
  (3, [(1, .negSucc 9223372036854775807, .ofNat 9223372036854775807), (2, .ofNat 0, .ofNat 4)], [], [], [.inr (true, (1, .ofNat 0))], [(1, (0, .ofNat 3), .inr (false, (2, .ofNat 0))), (1, (0, .ofNat 7), .inr (false, (0, .ofNat 5)))], [], [])], [], 0, 0)
def cu23 : List sxCu := [
  (9, (4, [(1, .negSucc 9223372036854775807, .ofNat 9223372036854775807), (2, .ofNat 0, .ofNat 600), (3, .ofNat 0, .ofNat 4)], [], [(0, .inl 1), (1, .inl 11), (2, .inr (true, (1, .ofNat 0))), (4, .inr (false, (2, .ofNat 0)))], [], [(1, (0, .ofNat 3), .inr (false, (3, .ofNat 0))), (1, (0, .ofNat 7), .inr (false, (0, .ofNat 5)))], [], []), ((0, 2, .ofNat 600), (0, 0, .ofNat 0), (0, 0, .ofNat 0)), 0, 0)]
set_option maxRecDepth 1000000 in
theorem cv23 {gh : sxGh} (hg : sxGd sxKw gh) : sxCtV sxKw gh ct23 := sxMeB_ok (cts := [ct22, ct2, ct15]) (cuts := cu23) (sp := []) 92 (by decide +kernel) hg (by decide) (by decide) (List.forall_mem_cons.mpr ⟨cv22 hg, (List.forall_mem_cons.mpr ⟨cv2 hg, (List.forall_mem_cons.mpr ⟨cv15 hg, (fun _ h => absurd h List.not_mem_nil)⟩)⟩)⟩)
/-- LotBeliefs.Sentence.readBrackets -/
def ct24 : sxCt := (46, 10, (1, [], [], [(0, .inl 1), (1, .inl 11)], [], [(1, (0, .ofNat 7), .inr (false, (0, .ofNat 4)))], [], []), [(1, 4), (1, 5), (1, 6), (1, 7), (1, 8), (1, 9), (1, 10)], [
  (3, [(1, .negSucc 9223372036854775807, .ofNat 9223372036854775807), (2, .ofNat 0, .ofNat 4)], [], [], [.inr (true, (1, .ofNat 0))], [(1, (0, .ofNat 3), .inr (false, (2, .ofNat 0))), (1, (0, .ofNat 7), .inr (false, (0, .ofNat 4)))], [], [])], [], 0, 0)
def cu24 : List sxCu := []
set_option maxRecDepth 1000000 in
theorem cv24 {gh : sxGh} (hg : sxGd sxKw gh) : sxCtV sxKw gh ct24 := sxMeB_ok (cts := [ct23, ct2]) (cuts := cu24) (sp := []) 196 (by decide +kernel) hg (by decide) (by decide) (List.forall_mem_cons.mpr ⟨cv23 hg, (List.forall_mem_cons.mpr ⟨cv2 hg, (fun _ h => absurd h List.not_mem_nil)⟩)⟩)
/-- LotBeliefs.Sentence.readAtom -/
def ct25 : sxCt := (47, 1, (1, [], [], [(0, .inl 1), (1, .inl 11)], [], [(1, (0, .ofNat 7), .inr (false, (0, .ofNat 4)))], [], []), [(1, 4), (1, 5), (1, 6), (1, 7), (1, 9), (1, 10)], [
  (3, [(1, .negSucc 9223372036854775807, .ofNat 9223372036854775807), (2, .ofNat 0, .ofNat 4)], [], [], [.inr (true, (1, .ofNat 0))], [(1, (0, .ofNat 3), .inr (false, (2, .ofNat 0))), (1, (0, .ofNat 7), .inr (false, (0, .ofNat 4)))], [], [])], [], 0, 0)
def cu25 : List sxCu := []
set_option maxRecDepth 1000000 in
theorem cv25 {gh : sxGh} (hg : sxGd sxKw gh) : sxCtV sxKw gh ct25 := sxMeB_ok (cts := [ct2]) (cuts := cu25) (sp := []) 222 (by decide +kernel) hg (by decide) (by decide) (List.forall_mem_cons.mpr ⟨cv2 hg, (fun _ h => absurd h List.not_mem_nil)⟩)
/-- LotBeliefs.Sentence.readPart -/
def ct26 : sxCt := (43, 11, (1, [], [], [(0, .inl 1), (1, .inl 11)], [], [(1, (0, .ofNat 7), .inr (false, (0, .ofNat 4)))], [], []), [(1, 4), (1, 5), (1, 6), (1, 7), (1, 8), (1, 9), (1, 10)], [
  (3, [(1, .negSucc 9223372036854775807, .ofNat 9223372036854775807), (2, .ofNat 0, .ofNat 4)], [], [], [.inr (true, (1, .ofNat 0))], [(1, (0, .ofNat 3), .inr (false, (2, .ofNat 0))), (1, (0, .ofNat 7), .inr (false, (0, .ofNat 4)))], [], [])], [], 0, 0)
def cu26 : List sxCu := []
set_option maxRecDepth 1000000 in
theorem cv26 {gh : sxGh} (hg : sxGd sxKw gh) : sxCtV sxKw gh ct26 := sxMeB_ok (cts := [ct20, ct21, ct24, ct25, ct3, ct5]) (cuts := cu26) (sp := []) 118 (by decide +kernel) hg (by decide) (by decide) (List.forall_mem_cons.mpr ⟨cv20 hg, (List.forall_mem_cons.mpr ⟨cv21 hg, (List.forall_mem_cons.mpr ⟨cv24 hg, (List.forall_mem_cons.mpr ⟨cv25 hg, (List.forall_mem_cons.mpr ⟨cv3 hg, (List.forall_mem_cons.mpr ⟨cv5 hg, (fun _ h => absurd h List.not_mem_nil)⟩)⟩)⟩)⟩)⟩)⟩)
/-- LotBeliefs.Sentence.readNot -/
def ct27 : sxCt := (44, 12, (1, [], [], [(0, .inl 1), (1, .inl 11)], [], [(1, (0, .ofNat 7), .inr (false, (0, .ofNat 3)))], [], []), [(1, 4), (1, 5), (1, 6), (1, 7), (1, 8), (1, 9), (1, 10)], [
  (3, [(1, .negSucc 9223372036854775807, .ofNat 9223372036854775807), (2, .ofNat 0, .ofNat 4)], [], [], [.inr (true, (1, .ofNat 0))], [(1, (0, .ofNat 3), .inr (false, (2, .ofNat 0))), (1, (0, .ofNat 7), .inr (false, (0, .ofNat 3)))], [], [])], [], 0, 0)
def cu27 : List sxCu := []
set_option maxRecDepth 1000000 in
theorem cv27 {gh : sxGh} (hg : sxGd sxKw gh) : sxCtV sxKw gh ct27 := sxMeB_ok (cts := [ct26, ct2]) (cuts := cu27) (sp := []) 99 (by decide +kernel) hg (by decide) (by decide) (List.forall_mem_cons.mpr ⟨cv26 hg, (List.forall_mem_cons.mpr ⟨cv2 hg, (fun _ h => absurd h List.not_mem_nil)⟩)⟩)
/-- LotBeliefs.Sentence.readIf -/
def ct28 : sxCt := (45, 12, (1, [], [], [(0, .inl 1), (1, .inl 11)], [], [(1, (0, .ofNat 7), .inr (false, (0, .ofNat 3)))], [], []), [(1, 4), (1, 5), (1, 6), (1, 7), (1, 8), (1, 9), (1, 10)], [
  (3, [(1, .negSucc 9223372036854775807, .ofNat 9223372036854775807), (2, .ofNat 0, .ofNat 4)], [], [], [.inr (true, (1, .ofNat 0))], [(1, (0, .ofNat 3), .inr (false, (2, .ofNat 0))), (1, (0, .ofNat 7), .inr (false, (0, .ofNat 3)))], [], [])], [], 0, 0)
def cu28 : List sxCu := []
set_option maxRecDepth 1000000 in
theorem cv28 {gh : sxGh} (hg : sxGd sxKw gh) : sxCtV sxKw gh ct28 := sxMeB_ok (cts := [ct26, ct2, ct11]) (cuts := cu28) (sp := []) 177 (by decide +kernel) hg (by decide) (by decide) (List.forall_mem_cons.mpr ⟨cv26 hg, (List.forall_mem_cons.mpr ⟨cv2 hg, (List.forall_mem_cons.mpr ⟨cv11 hg, (fun _ h => absurd h List.not_mem_nil)⟩)⟩)⟩)
/-- LotBeliefs.Sentence.readEach -/
def ct29 : sxCt := (42, 12, (1, [], [], [(0, .inl 1), (1, .inl 11)], [], [(1, (0, .ofNat 7), .inr (false, (0, .ofNat 4)))], [], []), [(1, 4), (1, 5), (1, 6), (1, 7), (1, 8), (1, 9), (1, 10)], [
  (3, [(1, .negSucc 9223372036854775807, .ofNat 9223372036854775807), (2, .ofNat 0, .ofNat 4)], [], [], [.inr (true, (1, .ofNat 0))], [(1, (0, .ofNat 3), .inr (false, (2, .ofNat 0))), (1, (0, .ofNat 7), .inr (false, (0, .ofNat 4)))], [], [])], [], 0, 0)
def cu29 : List sxCu := [
  (9, (4, [(1, .negSucc 9223372036854775807, .ofNat 9223372036854775807), (2, .ofNat 0, .ofNat 600), (3, .ofNat 0, .ofNat 4)], [], [(0, .inl 1), (1, .inl 11), (2, .inr (true, (1, .ofNat 0))), (4, .inr (false, (2, .ofNat 0)))], [], [(1, (0, .ofNat 3), .inr (false, (3, .ofNat 0))), (1, (0, .ofNat 7), .inr (false, (0, .ofNat 4)))], [], []), ((0, 2, .ofNat 600), (0, 0, .ofNat 0), (0, 0, .ofNat 0)), 0, 0)]
set_option maxRecDepth 1000000 in
theorem cv29 {gh : sxGh} (hg : sxGd sxKw gh) : sxCtV sxKw gh ct29 := sxMeB_ok (cts := [ct26, ct2, ct13]) (cuts := cu29) (sp := []) 92 (by decide +kernel) hg (by decide) (by decide) (List.forall_mem_cons.mpr ⟨cv26 hg, (List.forall_mem_cons.mpr ⟨cv2 hg, (List.forall_mem_cons.mpr ⟨cv13 hg, (fun _ h => absurd h List.not_mem_nil)⟩)⟩)⟩)
/-- LotBeliefs.Sentence.readEither -/
def ct30 : sxCt := (41, 13, (1, [], [], [(0, .inl 1), (1, .inl 11)], [], [(1, (0, .ofNat 7), .inr (false, (0, .ofNat 4)))], [], []), [(1, 4), (1, 5), (1, 6), (1, 7), (1, 8), (1, 9), (1, 10)], [
  (3, [(1, .negSucc 9223372036854775807, .ofNat 9223372036854775807), (2, .ofNat 0, .ofNat 4)], [], [], [.inr (true, (1, .ofNat 0))], [(1, (0, .ofNat 3), .inr (false, (2, .ofNat 0))), (1, (0, .ofNat 7), .inr (false, (0, .ofNat 4)))], [], [])], [], 0, 0)
def cu30 : List sxCu := [
  (9, (4, [(1, .negSucc 9223372036854775807, .ofNat 9223372036854775807), (2, .ofNat 0, .ofNat 600), (3, .ofNat 0, .ofNat 4)], [], [(0, .inl 1), (1, .inl 11), (2, .inr (true, (1, .ofNat 0))), (4, .inr (false, (2, .ofNat 0)))], [], [(1, (0, .ofNat 3), .inr (false, (3, .ofNat 0))), (1, (0, .ofNat 7), .inr (false, (0, .ofNat 4)))], [], []), ((0, 2, .ofNat 600), (0, 0, .ofNat 0), (0, 0, .ofNat 0)), 0, 0)]
set_option maxRecDepth 1000000 in
theorem cv30 {gh : sxGh} (hg : sxGd sxKw gh) : sxCtV sxKw gh ct30 := sxMeB_ok (cts := [ct29, ct2, ct15]) (cuts := cu30) (sp := []) 92 (by decide +kernel) hg (by decide) (by decide) (List.forall_mem_cons.mpr ⟨cv29 hg, (List.forall_mem_cons.mpr ⟨cv2 hg, (List.forall_mem_cons.mpr ⟨cv15 hg, (fun _ h => absurd h List.not_mem_nil)⟩)⟩)⟩)
/-- LotBeliefs.Sentence.readBrackets -/
def ct31 : sxCt := (46, 14, (1, [], [], [(0, .inl 1), (1, .inl 11)], [], [(1, (0, .ofNat 7), .inr (false, (0, .ofNat 3)))], [], []), [(1, 4), (1, 5), (1, 6), (1, 7), (1, 8), (1, 9), (1, 10)], [
  (3, [(1, .negSucc 9223372036854775807, .ofNat 9223372036854775807), (2, .ofNat 0, .ofNat 4)], [], [], [.inr (true, (1, .ofNat 0))], [(1, (0, .ofNat 3), .inr (false, (2, .ofNat 0))), (1, (0, .ofNat 7), .inr (false, (0, .ofNat 3)))], [], [])], [], 0, 0)
def cu31 : List sxCu := []
set_option maxRecDepth 1000000 in
theorem cv31 {gh : sxGh} (hg : sxGd sxKw gh) : sxCtV sxKw gh ct31 := sxMeB_ok (cts := [ct30, ct2]) (cuts := cu31) (sp := []) 196 (by decide +kernel) hg (by decide) (by decide) (List.forall_mem_cons.mpr ⟨cv30 hg, (List.forall_mem_cons.mpr ⟨cv2 hg, (fun _ h => absurd h List.not_mem_nil)⟩)⟩)
/-- LotBeliefs.Sentence.readAtom -/
def ct32 : sxCt := (47, 1, (1, [], [], [(0, .inl 1), (1, .inl 11)], [], [(1, (0, .ofNat 7), .inr (false, (0, .ofNat 3)))], [], []), [(1, 4), (1, 5), (1, 6), (1, 7), (1, 9), (1, 10)], [
  (3, [(1, .negSucc 9223372036854775807, .ofNat 9223372036854775807), (2, .ofNat 0, .ofNat 4)], [], [], [.inr (true, (1, .ofNat 0))], [(1, (0, .ofNat 3), .inr (false, (2, .ofNat 0))), (1, (0, .ofNat 7), .inr (false, (0, .ofNat 3)))], [], [])], [], 0, 0)
def cu32 : List sxCu := []
set_option maxRecDepth 1000000 in
theorem cv32 {gh : sxGh} (hg : sxGd sxKw gh) : sxCtV sxKw gh ct32 := sxMeB_ok (cts := [ct2]) (cuts := cu32) (sp := []) 222 (by decide +kernel) hg (by decide) (by decide) (List.forall_mem_cons.mpr ⟨cv2 hg, (fun _ h => absurd h List.not_mem_nil)⟩)
/-- LotBeliefs.Sentence.readPart -/
def ct33 : sxCt := (43, 15, (1, [], [], [(0, .inl 1), (1, .inl 11)], [], [(1, (0, .ofNat 7), .inr (false, (0, .ofNat 3)))], [], []), [(1, 4), (1, 5), (1, 6), (1, 7), (1, 8), (1, 9), (1, 10)], [
  (3, [(1, .negSucc 9223372036854775807, .ofNat 9223372036854775807), (2, .ofNat 0, .ofNat 4)], [], [], [.inr (true, (1, .ofNat 0))], [(1, (0, .ofNat 3), .inr (false, (2, .ofNat 0))), (1, (0, .ofNat 7), .inr (false, (0, .ofNat 3)))], [], [])], [], 0, 0)
def cu33 : List sxCu := []
set_option maxRecDepth 1000000 in
theorem cv33 {gh : sxGh} (hg : sxGd sxKw gh) : sxCtV sxKw gh ct33 := sxMeB_ok (cts := [ct27, ct28, ct31, ct32, ct3, ct5]) (cuts := cu33) (sp := []) 118 (by decide +kernel) hg (by decide) (by decide) (List.forall_mem_cons.mpr ⟨cv27 hg, (List.forall_mem_cons.mpr ⟨cv28 hg, (List.forall_mem_cons.mpr ⟨cv31 hg, (List.forall_mem_cons.mpr ⟨cv32 hg, (List.forall_mem_cons.mpr ⟨cv3 hg, (List.forall_mem_cons.mpr ⟨cv5 hg, (fun _ h => absurd h List.not_mem_nil)⟩)⟩)⟩)⟩)⟩)⟩)
/-- LotBeliefs.Sentence.readNot -/
def ct34 : sxCt := (44, 16, (1, [], [], [(0, .inl 1), (1, .inl 11)], [], [(1, (0, .ofNat 7), .inr (false, (0, .ofNat 2)))], [], []), [(1, 4), (1, 5), (1, 6), (1, 7), (1, 8), (1, 9), (1, 10)], [
  (3, [(1, .negSucc 9223372036854775807, .ofNat 9223372036854775807), (2, .ofNat 0, .ofNat 4)], [], [], [.inr (true, (1, .ofNat 0))], [(1, (0, .ofNat 3), .inr (false, (2, .ofNat 0))), (1, (0, .ofNat 7), .inr (false, (0, .ofNat 2)))], [], [])], [], 0, 0)
def cu34 : List sxCu := []
set_option maxRecDepth 1000000 in
theorem cv34 {gh : sxGh} (hg : sxGd sxKw gh) : sxCtV sxKw gh ct34 := sxMeB_ok (cts := [ct33, ct2]) (cuts := cu34) (sp := []) 99 (by decide +kernel) hg (by decide) (by decide) (List.forall_mem_cons.mpr ⟨cv33 hg, (List.forall_mem_cons.mpr ⟨cv2 hg, (fun _ h => absurd h List.not_mem_nil)⟩)⟩)
/-- LotBeliefs.Sentence.readIf -/
def ct35 : sxCt := (45, 16, (1, [], [], [(0, .inl 1), (1, .inl 11)], [], [(1, (0, .ofNat 7), .inr (false, (0, .ofNat 2)))], [], []), [(1, 4), (1, 5), (1, 6), (1, 7), (1, 8), (1, 9), (1, 10)], [
  (3, [(1, .negSucc 9223372036854775807, .ofNat 9223372036854775807), (2, .ofNat 0, .ofNat 4)], [], [], [.inr (true, (1, .ofNat 0))], [(1, (0, .ofNat 3), .inr (false, (2, .ofNat 0))), (1, (0, .ofNat 7), .inr (false, (0, .ofNat 2)))], [], [])], [], 0, 0)
def cu35 : List sxCu := []
set_option maxRecDepth 1000000 in
theorem cv35 {gh : sxGh} (hg : sxGd sxKw gh) : sxCtV sxKw gh ct35 := sxMeB_ok (cts := [ct33, ct2, ct11]) (cuts := cu35) (sp := []) 177 (by decide +kernel) hg (by decide) (by decide) (List.forall_mem_cons.mpr ⟨cv33 hg, (List.forall_mem_cons.mpr ⟨cv2 hg, (List.forall_mem_cons.mpr ⟨cv11 hg, (fun _ h => absurd h List.not_mem_nil)⟩)⟩)⟩)
/-- LotBeliefs.Sentence.readEach -/
def ct36 : sxCt := (42, 16, (1, [], [], [(0, .inl 1), (1, .inl 11)], [], [(1, (0, .ofNat 7), .inr (false, (0, .ofNat 3)))], [], []), [(1, 4), (1, 5), (1, 6), (1, 7), (1, 8), (1, 9), (1, 10)], [
  (3, [(1, .negSucc 9223372036854775807, .ofNat 9223372036854775807), (2, .ofNat 0, .ofNat 4)], [], [], [.inr (true, (1, .ofNat 0))], [(1, (0, .ofNat 3), .inr (false, (2, .ofNat 0))), (1, (0, .ofNat 7), .inr (false, (0, .ofNat 3)))], [], [])], [], 0, 0)
def cu36 : List sxCu := [
  (9, (4, [(1, .negSucc 9223372036854775807, .ofNat 9223372036854775807), (2, .ofNat 0, .ofNat 600), (3, .ofNat 0, .ofNat 4)], [], [(0, .inl 1), (1, .inl 11), (2, .inr (true, (1, .ofNat 0))), (4, .inr (false, (2, .ofNat 0)))], [], [(1, (0, .ofNat 3), .inr (false, (3, .ofNat 0))), (1, (0, .ofNat 7), .inr (false, (0, .ofNat 3)))], [], []), ((0, 2, .ofNat 600), (0, 0, .ofNat 0), (0, 0, .ofNat 0)), 0, 0)]
set_option maxRecDepth 1000000 in
theorem cv36 {gh : sxGh} (hg : sxGd sxKw gh) : sxCtV sxKw gh ct36 := sxMeB_ok (cts := [ct33, ct2, ct13]) (cuts := cu36) (sp := []) 92 (by decide +kernel) hg (by decide) (by decide) (List.forall_mem_cons.mpr ⟨cv33 hg, (List.forall_mem_cons.mpr ⟨cv2 hg, (List.forall_mem_cons.mpr ⟨cv13 hg, (fun _ h => absurd h List.not_mem_nil)⟩)⟩)⟩)
/-- LotBeliefs.Sentence.readEither -/
def ct37 : sxCt := (41, 17, (1, [], [], [(0, .inl 1), (1, .inl 11)], [], [(1, (0, .ofNat 7), .inr (false, (0, .ofNat 3)))], [], []), [(1, 4), (1, 5), (1, 6), (1, 7), (1, 8), (1, 9), (1, 10)], [
  (3, [(1, .negSucc 9223372036854775807, .ofNat 9223372036854775807), (2, .ofNat 0, .ofNat 4)], [], [], [.inr (true, (1, .ofNat 0))], [(1, (0, .ofNat 3), .inr (false, (2, .ofNat 0))), (1, (0, .ofNat 7), .inr (false, (0, .ofNat 3)))], [], [])], [], 0, 0)
def cu37 : List sxCu := [
  (9, (4, [(1, .negSucc 9223372036854775807, .ofNat 9223372036854775807), (2, .ofNat 0, .ofNat 600), (3, .ofNat 0, .ofNat 4)], [], [(0, .inl 1), (1, .inl 11), (2, .inr (true, (1, .ofNat 0))), (4, .inr (false, (2, .ofNat 0)))], [], [(1, (0, .ofNat 3), .inr (false, (3, .ofNat 0))), (1, (0, .ofNat 7), .inr (false, (0, .ofNat 3)))], [], []), ((0, 2, .ofNat 600), (0, 0, .ofNat 0), (0, 0, .ofNat 0)), 0, 0)]
set_option maxRecDepth 1000000 in
theorem cv37 {gh : sxGh} (hg : sxGd sxKw gh) : sxCtV sxKw gh ct37 := sxMeB_ok (cts := [ct36, ct2, ct15]) (cuts := cu37) (sp := []) 92 (by decide +kernel) hg (by decide) (by decide) (List.forall_mem_cons.mpr ⟨cv36 hg, (List.forall_mem_cons.mpr ⟨cv2 hg, (List.forall_mem_cons.mpr ⟨cv15 hg, (fun _ h => absurd h List.not_mem_nil)⟩)⟩)⟩)
/-- LotBeliefs.Sentence.readBrackets -/
def ct38 : sxCt := (46, 18, (1, [], [], [(0, .inl 1), (1, .inl 11)], [], [(1, (0, .ofNat 7), .inr (false, (0, .ofNat 2)))], [], []), [(1, 4), (1, 5), (1, 6), (1, 7), (1, 8), (1, 9), (1, 10)], [
  (3, [(1, .negSucc 9223372036854775807, .ofNat 9223372036854775807), (2, .ofNat 0, .ofNat 4)], [], [], [.inr (true, (1, .ofNat 0))], [(1, (0, .ofNat 3), .inr (false, (2, .ofNat 0))), (1, (0, .ofNat 7), .inr (false, (0, .ofNat 2)))], [], [])], [], 0, 0)
def cu38 : List sxCu := []
set_option maxRecDepth 1000000 in
theorem cv38 {gh : sxGh} (hg : sxGd sxKw gh) : sxCtV sxKw gh ct38 := sxMeB_ok (cts := [ct37, ct2]) (cuts := cu38) (sp := []) 196 (by decide +kernel) hg (by decide) (by decide) (List.forall_mem_cons.mpr ⟨cv37 hg, (List.forall_mem_cons.mpr ⟨cv2 hg, (fun _ h => absurd h List.not_mem_nil)⟩)⟩)
/-- LotBeliefs.Sentence.readAtom -/
def ct39 : sxCt := (47, 1, (1, [], [], [(0, .inl 1), (1, .inl 11)], [], [(1, (0, .ofNat 7), .inr (false, (0, .ofNat 2)))], [], []), [(1, 4), (1, 5), (1, 6), (1, 7), (1, 9), (1, 10)], [
  (3, [(1, .negSucc 9223372036854775807, .ofNat 9223372036854775807), (2, .ofNat 0, .ofNat 4)], [], [], [.inr (true, (1, .ofNat 0))], [(1, (0, .ofNat 3), .inr (false, (2, .ofNat 0))), (1, (0, .ofNat 7), .inr (false, (0, .ofNat 2)))], [], [])], [], 0, 0)
def cu39 : List sxCu := []
set_option maxRecDepth 1000000 in
theorem cv39 {gh : sxGh} (hg : sxGd sxKw gh) : sxCtV sxKw gh ct39 := sxMeB_ok (cts := [ct2]) (cuts := cu39) (sp := []) 222 (by decide +kernel) hg (by decide) (by decide) (List.forall_mem_cons.mpr ⟨cv2 hg, (fun _ h => absurd h List.not_mem_nil)⟩)
/-- LotBeliefs.Sentence.readPart -/
def ct40 : sxCt := (43, 19, (1, [], [], [(0, .inl 1), (1, .inl 11)], [], [(1, (0, .ofNat 7), .inr (false, (0, .ofNat 2)))], [], []), [(1, 4), (1, 5), (1, 6), (1, 7), (1, 8), (1, 9), (1, 10)], [
  (3, [(1, .negSucc 9223372036854775807, .ofNat 9223372036854775807), (2, .ofNat 0, .ofNat 4)], [], [], [.inr (true, (1, .ofNat 0))], [(1, (0, .ofNat 3), .inr (false, (2, .ofNat 0))), (1, (0, .ofNat 7), .inr (false, (0, .ofNat 2)))], [], [])], [], 0, 0)
def cu40 : List sxCu := []
set_option maxRecDepth 1000000 in
theorem cv40 {gh : sxGh} (hg : sxGd sxKw gh) : sxCtV sxKw gh ct40 := sxMeB_ok (cts := [ct34, ct35, ct38, ct39, ct3, ct5]) (cuts := cu40) (sp := []) 118 (by decide +kernel) hg (by decide) (by decide) (List.forall_mem_cons.mpr ⟨cv34 hg, (List.forall_mem_cons.mpr ⟨cv35 hg, (List.forall_mem_cons.mpr ⟨cv38 hg, (List.forall_mem_cons.mpr ⟨cv39 hg, (List.forall_mem_cons.mpr ⟨cv3 hg, (List.forall_mem_cons.mpr ⟨cv5 hg, (fun _ h => absurd h List.not_mem_nil)⟩)⟩)⟩)⟩)⟩)⟩)
/-- LotBeliefs.Sentence.readNot -/
def ct41 : sxCt := (44, 20, (1, [], [], [(0, .inl 1), (1, .inl 11)], [], [(1, (0, .ofNat 7), .inr (false, (0, .ofNat 1)))], [], []), [(1, 4), (1, 5), (1, 6), (1, 7), (1, 8), (1, 9), (1, 10)], [
  (3, [(1, .negSucc 9223372036854775807, .ofNat 9223372036854775807), (2, .ofNat 0, .ofNat 4)], [], [], [.inr (true, (1, .ofNat 0))], [(1, (0, .ofNat 3), .inr (false, (2, .ofNat 0))), (1, (0, .ofNat 7), .inr (false, (0, .ofNat 1)))], [], [])], [], 0, 0)
def cu41 : List sxCu := []
set_option maxRecDepth 1000000 in
theorem cv41 {gh : sxGh} (hg : sxGd sxKw gh) : sxCtV sxKw gh ct41 := sxMeB_ok (cts := [ct40, ct2]) (cuts := cu41) (sp := []) 99 (by decide +kernel) hg (by decide) (by decide) (List.forall_mem_cons.mpr ⟨cv40 hg, (List.forall_mem_cons.mpr ⟨cv2 hg, (fun _ h => absurd h List.not_mem_nil)⟩)⟩)
/-- LotBeliefs.Sentence.readIf -/
def ct42 : sxCt := (45, 20, (1, [], [], [(0, .inl 1), (1, .inl 11)], [], [(1, (0, .ofNat 7), .inr (false, (0, .ofNat 1)))], [], []), [(1, 4), (1, 5), (1, 6), (1, 7), (1, 8), (1, 9), (1, 10)], [
  (3, [(1, .negSucc 9223372036854775807, .ofNat 9223372036854775807), (2, .ofNat 0, .ofNat 4)], [], [], [.inr (true, (1, .ofNat 0))], [(1, (0, .ofNat 3), .inr (false, (2, .ofNat 0))), (1, (0, .ofNat 7), .inr (false, (0, .ofNat 1)))], [], [])], [], 0, 0)
def cu42 : List sxCu := []
set_option maxRecDepth 1000000 in
theorem cv42 {gh : sxGh} (hg : sxGd sxKw gh) : sxCtV sxKw gh ct42 := sxMeB_ok (cts := [ct40, ct2, ct11]) (cuts := cu42) (sp := []) 177 (by decide +kernel) hg (by decide) (by decide) (List.forall_mem_cons.mpr ⟨cv40 hg, (List.forall_mem_cons.mpr ⟨cv2 hg, (List.forall_mem_cons.mpr ⟨cv11 hg, (fun _ h => absurd h List.not_mem_nil)⟩)⟩)⟩)
/-- LotBeliefs.Sentence.readEach -/
def ct43 : sxCt := (42, 20, (1, [], [], [(0, .inl 1), (1, .inl 11)], [], [(1, (0, .ofNat 7), .inr (false, (0, .ofNat 2)))], [], []), [(1, 4), (1, 5), (1, 6), (1, 7), (1, 8), (1, 9), (1, 10)], [
  (3, [(1, .negSucc 9223372036854775807, .ofNat 9223372036854775807), (2, .ofNat 0, .ofNat 4)], [], [], [.inr (true, (1, .ofNat 0))], [(1, (0, .ofNat 3), .inr (false, (2, .ofNat 0))), (1, (0, .ofNat 7), .inr (false, (0, .ofNat 2)))], [], [])], [], 0, 0)
def cu43 : List sxCu := [
  (9, (4, [(1, .negSucc 9223372036854775807, .ofNat 9223372036854775807), (2, .ofNat 0, .ofNat 600), (3, .ofNat 0, .ofNat 4)], [], [(0, .inl 1), (1, .inl 11), (2, .inr (true, (1, .ofNat 0))), (4, .inr (false, (2, .ofNat 0)))], [], [(1, (0, .ofNat 3), .inr (false, (3, .ofNat 0))), (1, (0, .ofNat 7), .inr (false, (0, .ofNat 2)))], [], []), ((0, 2, .ofNat 600), (0, 0, .ofNat 0), (0, 0, .ofNat 0)), 0, 0)]
set_option maxRecDepth 1000000 in
theorem cv43 {gh : sxGh} (hg : sxGd sxKw gh) : sxCtV sxKw gh ct43 := sxMeB_ok (cts := [ct40, ct2, ct13]) (cuts := cu43) (sp := []) 92 (by decide +kernel) hg (by decide) (by decide) (List.forall_mem_cons.mpr ⟨cv40 hg, (List.forall_mem_cons.mpr ⟨cv2 hg, (List.forall_mem_cons.mpr ⟨cv13 hg, (fun _ h => absurd h List.not_mem_nil)⟩)⟩)⟩)
/-- LotBeliefs.Sentence.readEither -/
def ct44 : sxCt := (41, 21, (1, [], [], [(0, .inl 1), (1, .inl 11)], [], [(1, (0, .ofNat 7), .inr (false, (0, .ofNat 2)))], [], []), [(1, 4), (1, 5), (1, 6), (1, 7), (1, 8), (1, 9), (1, 10)], [
  (3, [(1, .negSucc 9223372036854775807, .ofNat 9223372036854775807), (2, .ofNat 0, .ofNat 4)], [], [], [.inr (true, (1, .ofNat 0))], [(1, (0, .ofNat 3), .inr (false, (2, .ofNat 0))), (1, (0, .ofNat 7), .inr (false, (0, .ofNat 2)))], [], [])], [], 0, 0)
def cu44 : List sxCu := [
  (9, (4, [(1, .negSucc 9223372036854775807, .ofNat 9223372036854775807), (2, .ofNat 0, .ofNat 600), (3, .ofNat 0, .ofNat 4)], [], [(0, .inl 1), (1, .inl 11), (2, .inr (true, (1, .ofNat 0))), (4, .inr (false, (2, .ofNat 0)))], [], [(1, (0, .ofNat 3), .inr (false, (3, .ofNat 0))), (1, (0, .ofNat 7), .inr (false, (0, .ofNat 2)))], [], []), ((0, 2, .ofNat 600), (0, 0, .ofNat 0), (0, 0, .ofNat 0)), 0, 0)]
set_option maxRecDepth 1000000 in
theorem cv44 {gh : sxGh} (hg : sxGd sxKw gh) : sxCtV sxKw gh ct44 := sxMeB_ok (cts := [ct43, ct2, ct15]) (cuts := cu44) (sp := []) 92 (by decide +kernel) hg (by decide) (by decide) (List.forall_mem_cons.mpr ⟨cv43 hg, (List.forall_mem_cons.mpr ⟨cv2 hg, (List.forall_mem_cons.mpr ⟨cv15 hg, (fun _ h => absurd h List.not_mem_nil)⟩)⟩)⟩)
/-- LotBeliefs.Sentence.readBrackets -/
def ct45 : sxCt := (46, 22, (1, [], [], [(0, .inl 1), (1, .inl 11)], [], [(1, (0, .ofNat 7), .inr (false, (0, .ofNat 1)))], [], []), [(1, 4), (1, 5), (1, 6), (1, 7), (1, 8), (1, 9), (1, 10)], [
  (3, [(1, .negSucc 9223372036854775807, .ofNat 9223372036854775807), (2, .ofNat 0, .ofNat 4)], [], [], [.inr (true, (1, .ofNat 0))], [(1, (0, .ofNat 3), .inr (false, (2, .ofNat 0))), (1, (0, .ofNat 7), .inr (false, (0, .ofNat 1)))], [], [])], [], 0, 0)
def cu45 : List sxCu := []
set_option maxRecDepth 1000000 in
theorem cv45 {gh : sxGh} (hg : sxGd sxKw gh) : sxCtV sxKw gh ct45 := sxMeB_ok (cts := [ct44, ct2]) (cuts := cu45) (sp := []) 196 (by decide +kernel) hg (by decide) (by decide) (List.forall_mem_cons.mpr ⟨cv44 hg, (List.forall_mem_cons.mpr ⟨cv2 hg, (fun _ h => absurd h List.not_mem_nil)⟩)⟩)
/-- LotBeliefs.Sentence.readAtom -/
def ct46 : sxCt := (47, 1, (1, [], [], [(0, .inl 1), (1, .inl 11)], [], [(1, (0, .ofNat 7), .inr (false, (0, .ofNat 1)))], [], []), [(1, 4), (1, 5), (1, 6), (1, 7), (1, 9), (1, 10)], [
  (3, [(1, .negSucc 9223372036854775807, .ofNat 9223372036854775807), (2, .ofNat 0, .ofNat 4)], [], [], [.inr (true, (1, .ofNat 0))], [(1, (0, .ofNat 3), .inr (false, (2, .ofNat 0))), (1, (0, .ofNat 7), .inr (false, (0, .ofNat 1)))], [], [])], [], 0, 0)
def cu46 : List sxCu := []
set_option maxRecDepth 1000000 in
theorem cv46 {gh : sxGh} (hg : sxGd sxKw gh) : sxCtV sxKw gh ct46 := sxMeB_ok (cts := [ct2]) (cuts := cu46) (sp := []) 222 (by decide +kernel) hg (by decide) (by decide) (List.forall_mem_cons.mpr ⟨cv2 hg, (fun _ h => absurd h List.not_mem_nil)⟩)
/-- LotBeliefs.Sentence.readPart -/
def ct47 : sxCt := (43, 23, (1, [], [], [(0, .inl 1), (1, .inl 11)], [], [(1, (0, .ofNat 7), .inr (false, (0, .ofNat 1)))], [], []), [(1, 4), (1, 5), (1, 6), (1, 7), (1, 8), (1, 9), (1, 10)], [
  (3, [(1, .negSucc 9223372036854775807, .ofNat 9223372036854775807), (2, .ofNat 0, .ofNat 4)], [], [], [.inr (true, (1, .ofNat 0))], [(1, (0, .ofNat 3), .inr (false, (2, .ofNat 0))), (1, (0, .ofNat 7), .inr (false, (0, .ofNat 1)))], [], [])], [], 0, 0)
def cu47 : List sxCu := []
set_option maxRecDepth 1000000 in
theorem cv47 {gh : sxGh} (hg : sxGd sxKw gh) : sxCtV sxKw gh ct47 := sxMeB_ok (cts := [ct41, ct42, ct45, ct46, ct3, ct5]) (cuts := cu47) (sp := []) 118 (by decide +kernel) hg (by decide) (by decide) (List.forall_mem_cons.mpr ⟨cv41 hg, (List.forall_mem_cons.mpr ⟨cv42 hg, (List.forall_mem_cons.mpr ⟨cv45 hg, (List.forall_mem_cons.mpr ⟨cv46 hg, (List.forall_mem_cons.mpr ⟨cv3 hg, (List.forall_mem_cons.mpr ⟨cv5 hg, (fun _ h => absurd h List.not_mem_nil)⟩)⟩)⟩)⟩)⟩)⟩)
/-- LotBeliefs.Sentence.readNot -/
def ct48 : sxCt := (44, 24, (1, [], [], [(0, .inl 1), (1, .inl 11)], [], [(1, (0, .ofNat 7), .inr (false, (0, .ofNat 0)))], [], []), [(1, 4), (1, 5), (1, 6), (1, 7), (1, 8), (1, 9), (1, 10)], [
  (3, [(1, .negSucc 9223372036854775807, .ofNat 9223372036854775807), (2, .ofNat 0, .ofNat 4)], [], [], [.inr (true, (1, .ofNat 0))], [(1, (0, .ofNat 3), .inr (false, (2, .ofNat 0))), (1, (0, .ofNat 7), .inr (false, (0, .ofNat 0)))], [], [])], [], 0, 0)
def cu48 : List sxCu := []
set_option maxRecDepth 1000000 in
theorem cv48 {gh : sxGh} (hg : sxGd sxKw gh) : sxCtV sxKw gh ct48 := sxMeB_ok (cts := [ct47, ct2]) (cuts := cu48) (sp := []) 99 (by decide +kernel) hg (by decide) (by decide) (List.forall_mem_cons.mpr ⟨cv47 hg, (List.forall_mem_cons.mpr ⟨cv2 hg, (fun _ h => absurd h List.not_mem_nil)⟩)⟩)
/-- LotBeliefs.Sentence.readIf -/
def ct49 : sxCt := (45, 24, (1, [], [], [(0, .inl 1), (1, .inl 11)], [], [(1, (0, .ofNat 7), .inr (false, (0, .ofNat 0)))], [], []), [(1, 4), (1, 5), (1, 6), (1, 7), (1, 8), (1, 9), (1, 10)], [
  (3, [(1, .negSucc 9223372036854775807, .ofNat 9223372036854775807), (2, .ofNat 0, .ofNat 4)], [], [], [.inr (true, (1, .ofNat 0))], [(1, (0, .ofNat 3), .inr (false, (2, .ofNat 0))), (1, (0, .ofNat 7), .inr (false, (0, .ofNat 0)))], [], [])], [], 0, 0)
def cu49 : List sxCu := []
set_option maxRecDepth 1000000 in
theorem cv49 {gh : sxGh} (hg : sxGd sxKw gh) : sxCtV sxKw gh ct49 := sxMeB_ok (cts := [ct47, ct2, ct11]) (cuts := cu49) (sp := []) 177 (by decide +kernel) hg (by decide) (by decide) (List.forall_mem_cons.mpr ⟨cv47 hg, (List.forall_mem_cons.mpr ⟨cv2 hg, (List.forall_mem_cons.mpr ⟨cv11 hg, (fun _ h => absurd h List.not_mem_nil)⟩)⟩)⟩)
/-- LotBeliefs.Sentence.readEach -/
def ct50 : sxCt := (42, 24, (1, [], [], [(0, .inl 1), (1, .inl 11)], [], [(1, (0, .ofNat 7), .inr (false, (0, .ofNat 1)))], [], []), [(1, 4), (1, 5), (1, 6), (1, 7), (1, 8), (1, 9), (1, 10)], [
  (3, [(1, .negSucc 9223372036854775807, .ofNat 9223372036854775807), (2, .ofNat 0, .ofNat 4)], [], [], [.inr (true, (1, .ofNat 0))], [(1, (0, .ofNat 3), .inr (false, (2, .ofNat 0))), (1, (0, .ofNat 7), .inr (false, (0, .ofNat 1)))], [], [])], [], 0, 0)
def cu50 : List sxCu := [
  (9, (4, [(1, .negSucc 9223372036854775807, .ofNat 9223372036854775807), (2, .ofNat 0, .ofNat 600), (3, .ofNat 0, .ofNat 4)], [], [(0, .inl 1), (1, .inl 11), (2, .inr (true, (1, .ofNat 0))), (4, .inr (false, (2, .ofNat 0)))], [], [(1, (0, .ofNat 3), .inr (false, (3, .ofNat 0))), (1, (0, .ofNat 7), .inr (false, (0, .ofNat 1)))], [], []), ((0, 2, .ofNat 600), (0, 0, .ofNat 0), (0, 0, .ofNat 0)), 0, 0)]
set_option maxRecDepth 1000000 in
theorem cv50 {gh : sxGh} (hg : sxGd sxKw gh) : sxCtV sxKw gh ct50 := sxMeB_ok (cts := [ct47, ct2, ct13]) (cuts := cu50) (sp := []) 92 (by decide +kernel) hg (by decide) (by decide) (List.forall_mem_cons.mpr ⟨cv47 hg, (List.forall_mem_cons.mpr ⟨cv2 hg, (List.forall_mem_cons.mpr ⟨cv13 hg, (fun _ h => absurd h List.not_mem_nil)⟩)⟩)⟩)
/-- LotBeliefs.Sentence.readEither -/
def ct51 : sxCt := (41, 25, (1, [], [], [(0, .inl 1), (1, .inl 11)], [], [(1, (0, .ofNat 7), .inr (false, (0, .ofNat 1)))], [], []), [(1, 4), (1, 5), (1, 6), (1, 7), (1, 8), (1, 9), (1, 10)], [
  (3, [(1, .negSucc 9223372036854775807, .ofNat 9223372036854775807), (2, .ofNat 0, .ofNat 4)], [], [], [.inr (true, (1, .ofNat 0))], [(1, (0, .ofNat 3), .inr (false, (2, .ofNat 0))), (1, (0, .ofNat 7), .inr (false, (0, .ofNat 1)))], [], [])], [], 0, 0)
def cu51 : List sxCu := [
  (9, (4, [(1, .negSucc 9223372036854775807, .ofNat 9223372036854775807), (2, .ofNat 0, .ofNat 600), (3, .ofNat 0, .ofNat 4)], [], [(0, .inl 1), (1, .inl 11), (2, .inr (true, (1, .ofNat 0))), (4, .inr (false, (2, .ofNat 0)))], [], [(1, (0, .ofNat 3), .inr (false, (3, .ofNat 0))), (1, (0, .ofNat 7), .inr (false, (0, .ofNat 1)))], [], []), ((0, 2, .ofNat 600), (0, 0, .ofNat 0), (0, 0, .ofNat 0)), 0, 0)]
set_option maxRecDepth 1000000 in
theorem cv51 {gh : sxGh} (hg : sxGd sxKw gh) : sxCtV sxKw gh ct51 := sxMeB_ok (cts := [ct50, ct2, ct15]) (cuts := cu51) (sp := []) 92 (by decide +kernel) hg (by decide) (by decide) (List.forall_mem_cons.mpr ⟨cv50 hg, (List.forall_mem_cons.mpr ⟨cv2 hg, (List.forall_mem_cons.mpr ⟨cv15 hg, (fun _ h => absurd h List.not_mem_nil)⟩)⟩)⟩)
/-- LotBeliefs.Sentence.readBrackets -/
def ct52 : sxCt := (46, 26, (1, [], [], [(0, .inl 1), (1, .inl 11)], [], [(1, (0, .ofNat 7), .inr (false, (0, .ofNat 0)))], [], []), [(1, 4), (1, 5), (1, 6), (1, 7), (1, 8), (1, 9), (1, 10)], [
  (3, [(1, .negSucc 9223372036854775807, .ofNat 9223372036854775807), (2, .ofNat 0, .ofNat 4)], [], [], [.inr (true, (1, .ofNat 0))], [(1, (0, .ofNat 3), .inr (false, (2, .ofNat 0))), (1, (0, .ofNat 7), .inr (false, (0, .ofNat 0)))], [], [])], [], 0, 0)
def cu52 : List sxCu := []
set_option maxRecDepth 1000000 in
theorem cv52 {gh : sxGh} (hg : sxGd sxKw gh) : sxCtV sxKw gh ct52 := sxMeB_ok (cts := [ct51, ct2]) (cuts := cu52) (sp := []) 196 (by decide +kernel) hg (by decide) (by decide) (List.forall_mem_cons.mpr ⟨cv51 hg, (List.forall_mem_cons.mpr ⟨cv2 hg, (fun _ h => absurd h List.not_mem_nil)⟩)⟩)
/-- LotBeliefs.Sentence.readAtom -/
def ct53 : sxCt := (47, 1, (1, [], [], [(0, .inl 1), (1, .inl 11)], [], [(1, (0, .ofNat 7), .inr (false, (0, .ofNat 0)))], [], []), [(1, 4), (1, 5), (1, 6), (1, 7), (1, 9), (1, 10)], [
  (3, [(1, .negSucc 9223372036854775807, .ofNat 9223372036854775807), (2, .ofNat 0, .ofNat 4)], [], [], [.inr (true, (1, .ofNat 0))], [(1, (0, .ofNat 3), .inr (false, (2, .ofNat 0))), (1, (0, .ofNat 7), .inr (false, (0, .ofNat 0)))], [], [])], [], 0, 0)
def cu53 : List sxCu := []
set_option maxRecDepth 1000000 in
theorem cv53 {gh : sxGh} (hg : sxGd sxKw gh) : sxCtV sxKw gh ct53 := sxMeB_ok (cts := [ct2]) (cuts := cu53) (sp := []) 222 (by decide +kernel) hg (by decide) (by decide) (List.forall_mem_cons.mpr ⟨cv2 hg, (fun _ h => absurd h List.not_mem_nil)⟩)
/-- LotBeliefs.Sentence.readPart -/
def ct54 : sxCt := (43, 27, (1, [], [], [(0, .inl 1), (1, .inl 11)], [], [(1, (0, .ofNat 7), .inr (false, (0, .ofNat 0)))], [], []), [(1, 4), (1, 5), (1, 6), (1, 7), (1, 8), (1, 9), (1, 10)], [
  (3, [(1, .negSucc 9223372036854775807, .ofNat 9223372036854775807), (2, .ofNat 0, .ofNat 4)], [], [], [.inr (true, (1, .ofNat 0))], [(1, (0, .ofNat 3), .inr (false, (2, .ofNat 0))), (1, (0, .ofNat 7), .inr (false, (0, .ofNat 0)))], [], [])], [], 0, 0)
def cu54 : List sxCu := []
set_option maxRecDepth 1000000 in
theorem cv54 {gh : sxGh} (hg : sxGd sxKw gh) : sxCtV sxKw gh ct54 := sxMeB_ok (cts := [ct48, ct49, ct52, ct53, ct3, ct5]) (cuts := cu54) (sp := []) 118 (by decide +kernel) hg (by decide) (by decide) (List.forall_mem_cons.mpr ⟨cv48 hg, (List.forall_mem_cons.mpr ⟨cv49 hg, (List.forall_mem_cons.mpr ⟨cv52 hg, (List.forall_mem_cons.mpr ⟨cv53 hg, (List.forall_mem_cons.mpr ⟨cv3 hg, (List.forall_mem_cons.mpr ⟨cv5 hg, (fun _ h => absurd h List.not_mem_nil)⟩)⟩)⟩)⟩)⟩)⟩)
/-- LotBeliefs.Sentence.readEach -/
def ct55 : sxCt := (42, 28, (1, [], [], [(0, .inl 1), (1, .inl 11)], [], [(1, (0, .ofNat 7), .inr (false, (0, .ofNat 0)))], [], []), [(1, 4), (1, 5), (1, 6), (1, 7), (1, 8), (1, 9), (1, 10)], [
  (3, [(1, .negSucc 9223372036854775807, .ofNat 9223372036854775807), (2, .ofNat 0, .ofNat 4)], [], [], [.inr (true, (1, .ofNat 0))], [(1, (0, .ofNat 3), .inr (false, (2, .ofNat 0))), (1, (0, .ofNat 7), .inr (false, (0, .ofNat 0)))], [], [])], [], 0, 0)
def cu55 : List sxCu := [
  (9, (4, [(1, .negSucc 9223372036854775807, .ofNat 9223372036854775807), (2, .ofNat 0, .ofNat 600), (3, .ofNat 0, .ofNat 4)], [], [(0, .inl 1), (1, .inl 11), (2, .inr (true, (1, .ofNat 0))), (4, .inr (false, (2, .ofNat 0)))], [], [(1, (0, .ofNat 3), .inr (false, (3, .ofNat 0))), (1, (0, .ofNat 7), .inr (false, (0, .ofNat 0)))], [], []), ((0, 2, .ofNat 600), (0, 0, .ofNat 0), (0, 0, .ofNat 0)), 0, 0)]
set_option maxRecDepth 1000000 in
theorem cv55 {gh : sxGh} (hg : sxGd sxKw gh) : sxCtV sxKw gh ct55 := sxMeB_ok (cts := [ct54, ct2, ct13]) (cuts := cu55) (sp := []) 92 (by decide +kernel) hg (by decide) (by decide) (List.forall_mem_cons.mpr ⟨cv54 hg, (List.forall_mem_cons.mpr ⟨cv2 hg, (List.forall_mem_cons.mpr ⟨cv13 hg, (fun _ h => absurd h List.not_mem_nil)⟩)⟩)⟩)
/-- LotBeliefs.Sentence.readEither -/
def ct56 : sxCt := (41, 29, (1, [], [], [(0, .inl 1), (1, .inl 11)], [], [(1, (0, .ofNat 7), .inr (false, (0, .ofNat 0)))], [], []), [(1, 4), (1, 5), (1, 6), (1, 7), (1, 8), (1, 9), (1, 10)], [
  (3, [(1, .negSucc 9223372036854775807, .ofNat 9223372036854775807), (2, .ofNat 0, .ofNat 4)], [], [], [.inr (true, (1, .ofNat 0))], [(1, (0, .ofNat 3), .inr (false, (2, .ofNat 0))), (1, (0, .ofNat 7), .inr (false, (0, .ofNat 0)))], [], [])], [], 0, 0)
def cu56 : List sxCu := [
  (9, (4, [(1, .negSucc 9223372036854775807, .ofNat 9223372036854775807), (2, .ofNat 0, .ofNat 600), (3, .ofNat 0, .ofNat 4)], [], [(0, .inl 1), (1, .inl 11), (2, .inr (true, (1, .ofNat 0))), (4, .inr (false, (2, .ofNat 0)))], [], [(1, (0, .ofNat 3), .inr (false, (3, .ofNat 0))), (1, (0, .ofNat 7), .inr (false, (0, .ofNat 0)))], [], []), ((0, 2, .ofNat 600), (0, 0, .ofNat 0), (0, 0, .ofNat 0)), 0, 0)]
set_option maxRecDepth 1000000 in
theorem cv56 {gh : sxGh} (hg : sxGd sxKw gh) : sxCtV sxKw gh ct56 := sxMeB_ok (cts := [ct55, ct2, ct15]) (cuts := cu56) (sp := []) 92 (by decide +kernel) hg (by decide) (by decide) (List.forall_mem_cons.mpr ⟨cv55 hg, (List.forall_mem_cons.mpr ⟨cv2 hg, (List.forall_mem_cons.mpr ⟨cv15 hg, (fun _ h => absurd h List.not_mem_nil)⟩)⟩)⟩)
/-- LotBeliefs.Sentence.readAlone -/
def ct57 : sxCt := (40, 30, (1, [], [], [(0, .inl 1), (1, .inl 11)], [], [(1, (0, .ofNat 7), .inr (false, (0, .ofNat 0)))], [], []), [(1, 4), (1, 5), (1, 6), (1, 7), (1, 8), (1, 9), (1, 10)], [
  (3, [(1, .negSucc 9223372036854775807, .ofNat 9223372036854775807), (2, .ofNat 0, .ofNat 4)], [], [], [.inr (true, (1, .ofNat 0))], [(1, (0, .ofNat 3), .inr (false, (2, .ofNat 0))), (1, (0, .ofNat 7), .inr (false, (0, .ofNat 0)))], [], [])], [], 0, 0)
def cu57 : List sxCu := []
set_option maxRecDepth 1000000 in
theorem cv57 {gh : sxGh} (hg : sxGd sxKw gh) : sxCtV sxKw gh ct57 := sxMeB_ok (cts := [ct56]) (cuts := cu57) (sp := []) 108 (by decide +kernel) hg (by decide) (by decide) (List.forall_mem_cons.mpr ⟨cv56 hg, (fun _ h => absurd h List.not_mem_nil)⟩)
/-- Long.bitCount -/
def ct58 : sxCt := (329, 0, (2, [(1, .negSucc 9223372036854775807, .ofNat 9223372036854775807)], [], [(0, .inr (true, (1, .ofNat 0)))], [], [], [], []), [], [
  (3, [(2, .ofNat 0, .ofNat 127)], [], [], [.inr (false, (2, .ofNat 0))], [], [], [])], [], 0, 0)
def cu58 : List sxCu := []
set_option maxRecDepth 1000000 in
theorem cv58 {gh : sxGh} (hg : sxGd sxKw gh) : sxCtV sxKw gh ct58 := sxMeB_ok (cts := []) (cuts := cu58) (sp := []) 109 (by decide +kernel) hg (by decide) (by decide) (fun _ h => absurd h List.not_mem_nil)
/-- LotBeliefs.Sentence.readNot -/
def ct59 : sxCt := (44, 2, (1, [], [], [(0, .inl 1), (1, .inl 3)], [], [(1, (0, .ofNat 7), .inr (false, (0, .ofNat 6)))], [], []), [(1, 4), (1, 9), (1, 10)], [
  (1, [], [], [], [.inr (true, (0, .ofNat 0))], [(1, (0, .ofNat 3), .inr (false, (0, .ofNat 4))), (1, (0, .ofNat 7), .inr (false, (0, .ofNat 6)))], [], [])], [], 0, 0)
def cu59 : List sxCu := []
set_option maxRecDepth 1000000 in
theorem cv59 {gh : sxGh} (hg : sxGd sxKw gh) : sxCtV sxKw gh ct59 := sxMeB_ok (cts := []) (cuts := cu59) (sp := []) 95 (by decide +kernel) hg (by decide) (by decide) (fun _ h => absurd h List.not_mem_nil)
/-- LotBeliefs.Sentence.readIf -/
def ct60 : sxCt := (45, 2, (1, [], [], [(0, .inl 1), (1, .inl 3)], [], [(1, (0, .ofNat 7), .inr (false, (0, .ofNat 6)))], [], []), [(1, 4), (1, 9), (1, 10)], [
  (1, [], [], [], [.inr (true, (0, .ofNat 0))], [(1, (0, .ofNat 3), .inr (false, (0, .ofNat 4))), (1, (0, .ofNat 7), .inr (false, (0, .ofNat 6)))], [], [])], [], 0, 0)
def cu60 : List sxCu := []
set_option maxRecDepth 1000000 in
theorem cv60 {gh : sxGh} (hg : sxGd sxKw gh) : sxCtV sxKw gh ct60 := sxMeB_ok (cts := []) (cuts := cu60) (sp := []) 95 (by decide +kernel) hg (by decide) (by decide) (fun _ h => absurd h List.not_mem_nil)
/-- LotBeliefs.Sentence.readBrackets -/
def ct61 : sxCt := (46, 2, (1, [], [], [(0, .inl 1), (1, .inl 3)], [], [(1, (0, .ofNat 7), .inr (false, (0, .ofNat 6)))], [], []), [(1, 4), (1, 9), (1, 10)], [
  (1, [], [], [], [.inr (true, (0, .ofNat 0))], [(1, (0, .ofNat 3), .inr (false, (0, .ofNat 4))), (1, (0, .ofNat 7), .inr (false, (0, .ofNat 6)))], [], [])], [], 0, 0)
def cu61 : List sxCu := []
set_option maxRecDepth 1000000 in
theorem cv61 {gh : sxGh} (hg : sxGd sxKw gh) : sxCtV sxKw gh ct61 := sxMeB_ok (cts := []) (cuts := cu61) (sp := []) 95 (by decide +kernel) hg (by decide) (by decide) (fun _ h => absurd h List.not_mem_nil)
/-- LotBeliefs.Sentence.readAtom -/
def ct62 : sxCt := (47, 1, (1, [], [], [(0, .inl 1), (1, .inl 3)], [], [(1, (0, .ofNat 7), .inr (false, (0, .ofNat 6)))], [], []), [(1, 4), (1, 5), (1, 6), (1, 7), (1, 9), (1, 10)], [
  (3, [(1, .negSucc 9223372036854775807, .ofNat 9223372036854775807), (2, .ofNat 0, .ofNat 4)], [], [], [.inr (true, (1, .ofNat 0))], [(1, (0, .ofNat 3), .inr (false, (2, .ofNat 0))), (1, (0, .ofNat 7), .inr (false, (0, .ofNat 6)))], [], [])], [], 0, 0)
def cu62 : List sxCu := []
set_option maxRecDepth 1000000 in
theorem cv62 {gh : sxGh} (hg : sxGd sxKw gh) : sxCtV sxKw gh ct62 := sxMeB_ok (cts := [ct2]) (cuts := cu62) (sp := []) 222 (by decide +kernel) hg (by decide) (by decide) (List.forall_mem_cons.mpr ⟨cv2 hg, (fun _ h => absurd h List.not_mem_nil)⟩)
/-- LotBeliefs.Sentence.readPart -/
def ct63 : sxCt := (43, 3, (1, [], [], [(0, .inl 1), (1, .inl 3)], [], [(1, (0, .ofNat 7), .inr (false, (0, .ofNat 6)))], [], []), [(1, 4), (1, 5), (1, 6), (1, 7), (1, 9), (1, 10)], [
  (3, [(1, .negSucc 9223372036854775807, .ofNat 9223372036854775807), (2, .ofNat 0, .ofNat 4)], [], [], [.inr (true, (1, .ofNat 0))], [(1, (0, .ofNat 3), .inr (false, (2, .ofNat 0))), (1, (0, .ofNat 7), .inr (false, (0, .ofNat 6)))], [], [])], [], 0, 0)
def cu63 : List sxCu := []
set_option maxRecDepth 1000000 in
theorem cv63 {gh : sxGh} (hg : sxGd sxKw gh) : sxCtV sxKw gh ct63 := sxMeB_ok (cts := [ct59, ct60, ct61, ct62, ct3, ct5]) (cuts := cu63) (sp := []) 118 (by decide +kernel) hg (by decide) (by decide) (List.forall_mem_cons.mpr ⟨cv59 hg, (List.forall_mem_cons.mpr ⟨cv60 hg, (List.forall_mem_cons.mpr ⟨cv61 hg, (List.forall_mem_cons.mpr ⟨cv62 hg, (List.forall_mem_cons.mpr ⟨cv3 hg, (List.forall_mem_cons.mpr ⟨cv5 hg, (fun _ h => absurd h List.not_mem_nil)⟩)⟩)⟩)⟩)⟩)⟩)
/-- LotBeliefs.Sentence.readNot -/
def ct64 : sxCt := (44, 4, (1, [], [], [(0, .inl 1), (1, .inl 3)], [], [(1, (0, .ofNat 7), .inr (false, (0, .ofNat 5)))], [], []), [(1, 4), (1, 5), (1, 6), (1, 7), (1, 8), (1, 9), (1, 10)], [
  (3, [(1, .negSucc 9223372036854775807, .ofNat 9223372036854775807), (2, .ofNat 0, .ofNat 4)], [], [], [.inr (true, (1, .ofNat 0))], [(1, (0, .ofNat 3), .inr (false, (2, .ofNat 0))), (1, (0, .ofNat 7), .inr (false, (0, .ofNat 5)))], [], [])], [], 0, 0)
def cu64 : List sxCu := []
set_option maxRecDepth 1000000 in
theorem cv64 {gh : sxGh} (hg : sxGd sxKw gh) : sxCtV sxKw gh ct64 := sxMeB_ok (cts := [ct63, ct2]) (cuts := cu64) (sp := []) 99 (by decide +kernel) hg (by decide) (by decide) (List.forall_mem_cons.mpr ⟨cv63 hg, (List.forall_mem_cons.mpr ⟨cv2 hg, (fun _ h => absurd h List.not_mem_nil)⟩)⟩)
/-- LotBeliefs.Sentence.readIf -/
def ct65 : sxCt := (45, 4, (1, [], [], [(0, .inl 1), (1, .inl 3)], [], [(1, (0, .ofNat 7), .inr (false, (0, .ofNat 5)))], [], []), [(1, 4), (1, 5), (1, 6), (1, 7), (1, 8), (1, 9), (1, 10)], [
  (3, [(1, .negSucc 9223372036854775807, .ofNat 9223372036854775807), (2, .ofNat 0, .ofNat 4)], [], [], [.inr (true, (1, .ofNat 0))], [(1, (0, .ofNat 3), .inr (false, (2, .ofNat 0))), (1, (0, .ofNat 7), .inr (false, (0, .ofNat 5)))], [], [])], [], 0, 0)
def cu65 : List sxCu := []
set_option maxRecDepth 1000000 in
theorem cv65 {gh : sxGh} (hg : sxGd sxKw gh) : sxCtV sxKw gh ct65 := sxMeB_ok (cts := [ct63, ct2, ct11]) (cuts := cu65) (sp := []) 177 (by decide +kernel) hg (by decide) (by decide) (List.forall_mem_cons.mpr ⟨cv63 hg, (List.forall_mem_cons.mpr ⟨cv2 hg, (List.forall_mem_cons.mpr ⟨cv11 hg, (fun _ h => absurd h List.not_mem_nil)⟩)⟩)⟩)
/-- LotBeliefs.Sentence.readEach -/
def ct66 : sxCt := (42, 4, (1, [], [], [(0, .inl 1), (1, .inl 3)], [], [(1, (0, .ofNat 7), .inr (false, (0, .ofNat 6)))], [], []), [(1, 4), (1, 5), (1, 6), (1, 7), (1, 9), (1, 10)], [
  (3, [(1, .negSucc 9223372036854775807, .ofNat 9223372036854775807), (2, .ofNat 0, .ofNat 4)], [], [], [.inr (true, (1, .ofNat 0))], [(1, (0, .ofNat 3), .inr (false, (2, .ofNat 0))), (1, (0, .ofNat 7), .inr (false, (0, .ofNat 6)))], [], [])], [], 0, 0)
def cu66 : List sxCu := [
  (9, (4, [(1, .negSucc 9223372036854775807, .ofNat 9223372036854775807), (2, .ofNat 0, .ofNat 600), (3, .ofNat 0, .ofNat 4)], [], [(0, .inl 1), (1, .inl 3), (2, .inr (true, (1, .ofNat 0))), (4, .inr (false, (2, .ofNat 0)))], [], [(1, (0, .ofNat 3), .inr (false, (3, .ofNat 0))), (1, (0, .ofNat 7), .inr (false, (0, .ofNat 6)))], [], []), ((0, 2, .ofNat 600), (0, 0, .ofNat 0), (0, 0, .ofNat 0)), 0, 0)]
set_option maxRecDepth 1000000 in
theorem cv66 {gh : sxGh} (hg : sxGd sxKw gh) : sxCtV sxKw gh ct66 := sxMeB_ok (cts := [ct63, ct2, ct13]) (cuts := cu66) (sp := []) 92 (by decide +kernel) hg (by decide) (by decide) (List.forall_mem_cons.mpr ⟨cv63 hg, (List.forall_mem_cons.mpr ⟨cv2 hg, (List.forall_mem_cons.mpr ⟨cv13 hg, (fun _ h => absurd h List.not_mem_nil)⟩)⟩)⟩)
/-- LotBeliefs.Sentence.readEither -/
def ct67 : sxCt := (41, 5, (1, [], [], [(0, .inl 1), (1, .inl 3)], [], [(1, (0, .ofNat 7), .inr (false, (0, .ofNat 6)))], [], []), [(1, 4), (1, 5), (1, 6), (1, 7), (1, 9), (1, 10)], [
  (3, [(1, .negSucc 9223372036854775807, .ofNat 9223372036854775807), (2, .ofNat 0, .ofNat 4)], [], [], [.inr (true, (1, .ofNat 0))], [(1, (0, .ofNat 3), .inr (false, (2, .ofNat 0))), (1, (0, .ofNat 7), .inr (false, (0, .ofNat 6)))], [], [])], [], 0, 0)
def cu67 : List sxCu := [
  (9, (4, [(1, .negSucc 9223372036854775807, .ofNat 9223372036854775807), (2, .ofNat 0, .ofNat 600), (3, .ofNat 0, .ofNat 4)], [], [(0, .inl 1), (1, .inl 3), (2, .inr (true, (1, .ofNat 0))), (4, .inr (false, (2, .ofNat 0)))], [], [(1, (0, .ofNat 3), .inr (false, (3, .ofNat 0))), (1, (0, .ofNat 7), .inr (false, (0, .ofNat 6)))], [], []), ((0, 2, .ofNat 600), (0, 0, .ofNat 0), (0, 0, .ofNat 0)), 0, 0)]
set_option maxRecDepth 1000000 in
theorem cv67 {gh : sxGh} (hg : sxGd sxKw gh) : sxCtV sxKw gh ct67 := sxMeB_ok (cts := [ct66, ct2, ct15]) (cuts := cu67) (sp := []) 92 (by decide +kernel) hg (by decide) (by decide) (List.forall_mem_cons.mpr ⟨cv66 hg, (List.forall_mem_cons.mpr ⟨cv2 hg, (List.forall_mem_cons.mpr ⟨cv15 hg, (fun _ h => absurd h List.not_mem_nil)⟩)⟩)⟩)
/-- LotBeliefs.Sentence.readBrackets -/
def ct68 : sxCt := (46, 6, (1, [], [], [(0, .inl 1), (1, .inl 3)], [], [(1, (0, .ofNat 7), .inr (false, (0, .ofNat 5)))], [], []), [(1, 4), (1, 5), (1, 6), (1, 7), (1, 8), (1, 9), (1, 10)], [
  (3, [(1, .negSucc 9223372036854775807, .ofNat 9223372036854775807), (2, .ofNat 0, .ofNat 4)], [], [], [.inr (true, (1, .ofNat 0))], [(1, (0, .ofNat 3), .inr (false, (2, .ofNat 0))), (1, (0, .ofNat 7), .inr (false, (0, .ofNat 5)))], [], [])], [], 0, 0)
def cu68 : List sxCu := []
set_option maxRecDepth 1000000 in
theorem cv68 {gh : sxGh} (hg : sxGd sxKw gh) : sxCtV sxKw gh ct68 := sxMeB_ok (cts := [ct67, ct2]) (cuts := cu68) (sp := []) 196 (by decide +kernel) hg (by decide) (by decide) (List.forall_mem_cons.mpr ⟨cv67 hg, (List.forall_mem_cons.mpr ⟨cv2 hg, (fun _ h => absurd h List.not_mem_nil)⟩)⟩)
/-- LotBeliefs.Sentence.readAtom -/
def ct69 : sxCt := (47, 1, (1, [], [], [(0, .inl 1), (1, .inl 3)], [], [(1, (0, .ofNat 7), .inr (false, (0, .ofNat 5)))], [], []), [(1, 4), (1, 5), (1, 6), (1, 7), (1, 9), (1, 10)], [
  (3, [(1, .negSucc 9223372036854775807, .ofNat 9223372036854775807), (2, .ofNat 0, .ofNat 4)], [], [], [.inr (true, (1, .ofNat 0))], [(1, (0, .ofNat 3), .inr (false, (2, .ofNat 0))), (1, (0, .ofNat 7), .inr (false, (0, .ofNat 5)))], [], [])], [], 0, 0)
def cu69 : List sxCu := []
set_option maxRecDepth 1000000 in
theorem cv69 {gh : sxGh} (hg : sxGd sxKw gh) : sxCtV sxKw gh ct69 := sxMeB_ok (cts := [ct2]) (cuts := cu69) (sp := []) 222 (by decide +kernel) hg (by decide) (by decide) (List.forall_mem_cons.mpr ⟨cv2 hg, (fun _ h => absurd h List.not_mem_nil)⟩)
/-- LotBeliefs.Sentence.readPart -/
def ct70 : sxCt := (43, 7, (1, [], [], [(0, .inl 1), (1, .inl 3)], [], [(1, (0, .ofNat 7), .inr (false, (0, .ofNat 5)))], [], []), [(1, 4), (1, 5), (1, 6), (1, 7), (1, 8), (1, 9), (1, 10)], [
  (3, [(1, .negSucc 9223372036854775807, .ofNat 9223372036854775807), (2, .ofNat 0, .ofNat 4)], [], [], [.inr (true, (1, .ofNat 0))], [(1, (0, .ofNat 3), .inr (false, (2, .ofNat 0))), (1, (0, .ofNat 7), .inr (false, (0, .ofNat 5)))], [], [])], [], 0, 0)
def cu70 : List sxCu := []
set_option maxRecDepth 1000000 in
theorem cv70 {gh : sxGh} (hg : sxGd sxKw gh) : sxCtV sxKw gh ct70 := sxMeB_ok (cts := [ct64, ct65, ct68, ct69, ct3, ct5]) (cuts := cu70) (sp := []) 118 (by decide +kernel) hg (by decide) (by decide) (List.forall_mem_cons.mpr ⟨cv64 hg, (List.forall_mem_cons.mpr ⟨cv65 hg, (List.forall_mem_cons.mpr ⟨cv68 hg, (List.forall_mem_cons.mpr ⟨cv69 hg, (List.forall_mem_cons.mpr ⟨cv3 hg, (List.forall_mem_cons.mpr ⟨cv5 hg, (fun _ h => absurd h List.not_mem_nil)⟩)⟩)⟩)⟩)⟩)⟩)
/-- LotBeliefs.Sentence.readNot -/
def ct71 : sxCt := (44, 8, (1, [], [], [(0, .inl 1), (1, .inl 3)], [], [(1, (0, .ofNat 7), .inr (false, (0, .ofNat 4)))], [], []), [(1, 4), (1, 5), (1, 6), (1, 7), (1, 8), (1, 9), (1, 10)], [
  (3, [(1, .negSucc 9223372036854775807, .ofNat 9223372036854775807), (2, .ofNat 0, .ofNat 4)], [], [], [.inr (true, (1, .ofNat 0))], [(1, (0, .ofNat 3), .inr (false, (2, .ofNat 0))), (1, (0, .ofNat 7), .inr (false, (0, .ofNat 4)))], [], [])], [], 0, 0)
def cu71 : List sxCu := []
set_option maxRecDepth 1000000 in
theorem cv71 {gh : sxGh} (hg : sxGd sxKw gh) : sxCtV sxKw gh ct71 := sxMeB_ok (cts := [ct70, ct2]) (cuts := cu71) (sp := []) 99 (by decide +kernel) hg (by decide) (by decide) (List.forall_mem_cons.mpr ⟨cv70 hg, (List.forall_mem_cons.mpr ⟨cv2 hg, (fun _ h => absurd h List.not_mem_nil)⟩)⟩)
/-- LotBeliefs.Sentence.readIf -/
def ct72 : sxCt := (45, 8, (1, [], [], [(0, .inl 1), (1, .inl 3)], [], [(1, (0, .ofNat 7), .inr (false, (0, .ofNat 4)))], [], []), [(1, 4), (1, 5), (1, 6), (1, 7), (1, 8), (1, 9), (1, 10)], [
  (3, [(1, .negSucc 9223372036854775807, .ofNat 9223372036854775807), (2, .ofNat 0, .ofNat 4)], [], [], [.inr (true, (1, .ofNat 0))], [(1, (0, .ofNat 3), .inr (false, (2, .ofNat 0))), (1, (0, .ofNat 7), .inr (false, (0, .ofNat 4)))], [], [])], [], 0, 0)
def cu72 : List sxCu := []
set_option maxRecDepth 1000000 in
theorem cv72 {gh : sxGh} (hg : sxGd sxKw gh) : sxCtV sxKw gh ct72 := sxMeB_ok (cts := [ct70, ct2, ct11]) (cuts := cu72) (sp := []) 177 (by decide +kernel) hg (by decide) (by decide) (List.forall_mem_cons.mpr ⟨cv70 hg, (List.forall_mem_cons.mpr ⟨cv2 hg, (List.forall_mem_cons.mpr ⟨cv11 hg, (fun _ h => absurd h List.not_mem_nil)⟩)⟩)⟩)
/-- LotBeliefs.Sentence.readEach -/
def ct73 : sxCt := (42, 8, (1, [], [], [(0, .inl 1), (1, .inl 3)], [], [(1, (0, .ofNat 7), .inr (false, (0, .ofNat 5)))], [], []), [(1, 4), (1, 5), (1, 6), (1, 7), (1, 8), (1, 9), (1, 10)], [
  (3, [(1, .negSucc 9223372036854775807, .ofNat 9223372036854775807), (2, .ofNat 0, .ofNat 4)], [], [], [.inr (true, (1, .ofNat 0))], [(1, (0, .ofNat 3), .inr (false, (2, .ofNat 0))), (1, (0, .ofNat 7), .inr (false, (0, .ofNat 5)))], [], [])], [], 0, 0)
def cu73 : List sxCu := [
  (9, (4, [(1, .negSucc 9223372036854775807, .ofNat 9223372036854775807), (2, .ofNat 0, .ofNat 600), (3, .ofNat 0, .ofNat 4)], [], [(0, .inl 1), (1, .inl 3), (2, .inr (true, (1, .ofNat 0))), (4, .inr (false, (2, .ofNat 0)))], [], [(1, (0, .ofNat 3), .inr (false, (3, .ofNat 0))), (1, (0, .ofNat 7), .inr (false, (0, .ofNat 5)))], [], []), ((0, 2, .ofNat 600), (0, 0, .ofNat 0), (0, 0, .ofNat 0)), 0, 0)]
set_option maxRecDepth 1000000 in
theorem cv73 {gh : sxGh} (hg : sxGd sxKw gh) : sxCtV sxKw gh ct73 := sxMeB_ok (cts := [ct70, ct2, ct13]) (cuts := cu73) (sp := []) 92 (by decide +kernel) hg (by decide) (by decide) (List.forall_mem_cons.mpr ⟨cv70 hg, (List.forall_mem_cons.mpr ⟨cv2 hg, (List.forall_mem_cons.mpr ⟨cv13 hg, (fun _ h => absurd h List.not_mem_nil)⟩)⟩)⟩)
/-- LotBeliefs.Sentence.readEither -/
def ct74 : sxCt := (41, 9, (1, [], [], [(0, .inl 1), (1, .inl 3)], [], [(1, (0, .ofNat 7), .inr (false, (0, .ofNat 5)))], [], []), [(1, 4), (1, 5), (1, 6), (1, 7), (1, 8), (1, 9), (1, 10)], [
  (3, [(1, .negSucc 9223372036854775807, .ofNat 9223372036854775807), (2, .ofNat 0, .ofNat 4)], [], [], [.inr (true, (1, .ofNat 0))], [(1, (0, .ofNat 3), .inr (false, (2, .ofNat 0))), (1, (0, .ofNat 7), .inr (false, (0, .ofNat 5)))], [], [])], [], 0, 0)
def cu74 : List sxCu := [
  (9, (4, [(1, .negSucc 9223372036854775807, .ofNat 9223372036854775807), (2, .ofNat 0, .ofNat 600), (3, .ofNat 0, .ofNat 4)], [], [(0, .inl 1), (1, .inl 3), (2, .inr (true, (1, .ofNat 0))), (4, .inr (false, (2, .ofNat 0)))], [], [(1, (0, .ofNat 3), .inr (false, (3, .ofNat 0))), (1, (0, .ofNat 7), .inr (false, (0, .ofNat 5)))], [], []), ((0, 2, .ofNat 600), (0, 0, .ofNat 0), (0, 0, .ofNat 0)), 0, 0)]
set_option maxRecDepth 1000000 in
theorem cv74 {gh : sxGh} (hg : sxGd sxKw gh) : sxCtV sxKw gh ct74 := sxMeB_ok (cts := [ct73, ct2, ct15]) (cuts := cu74) (sp := []) 92 (by decide +kernel) hg (by decide) (by decide) (List.forall_mem_cons.mpr ⟨cv73 hg, (List.forall_mem_cons.mpr ⟨cv2 hg, (List.forall_mem_cons.mpr ⟨cv15 hg, (fun _ h => absurd h List.not_mem_nil)⟩)⟩)⟩)
/-- LotBeliefs.Sentence.readBrackets -/
def ct75 : sxCt := (46, 10, (1, [], [], [(0, .inl 1), (1, .inl 3)], [], [(1, (0, .ofNat 7), .inr (false, (0, .ofNat 4)))], [], []), [(1, 4), (1, 5), (1, 6), (1, 7), (1, 8), (1, 9), (1, 10)], [
  (3, [(1, .negSucc 9223372036854775807, .ofNat 9223372036854775807), (2, .ofNat 0, .ofNat 4)], [], [], [.inr (true, (1, .ofNat 0))], [(1, (0, .ofNat 3), .inr (false, (2, .ofNat 0))), (1, (0, .ofNat 7), .inr (false, (0, .ofNat 4)))], [], [])], [], 0, 0)
def cu75 : List sxCu := []
set_option maxRecDepth 1000000 in
theorem cv75 {gh : sxGh} (hg : sxGd sxKw gh) : sxCtV sxKw gh ct75 := sxMeB_ok (cts := [ct74, ct2]) (cuts := cu75) (sp := []) 196 (by decide +kernel) hg (by decide) (by decide) (List.forall_mem_cons.mpr ⟨cv74 hg, (List.forall_mem_cons.mpr ⟨cv2 hg, (fun _ h => absurd h List.not_mem_nil)⟩)⟩)
/-- LotBeliefs.Sentence.readAtom -/
def ct76 : sxCt := (47, 1, (1, [], [], [(0, .inl 1), (1, .inl 3)], [], [(1, (0, .ofNat 7), .inr (false, (0, .ofNat 4)))], [], []), [(1, 4), (1, 5), (1, 6), (1, 7), (1, 9), (1, 10)], [
  (3, [(1, .negSucc 9223372036854775807, .ofNat 9223372036854775807), (2, .ofNat 0, .ofNat 4)], [], [], [.inr (true, (1, .ofNat 0))], [(1, (0, .ofNat 3), .inr (false, (2, .ofNat 0))), (1, (0, .ofNat 7), .inr (false, (0, .ofNat 4)))], [], [])], [], 0, 0)
def cu76 : List sxCu := []
set_option maxRecDepth 1000000 in
theorem cv76 {gh : sxGh} (hg : sxGd sxKw gh) : sxCtV sxKw gh ct76 := sxMeB_ok (cts := [ct2]) (cuts := cu76) (sp := []) 222 (by decide +kernel) hg (by decide) (by decide) (List.forall_mem_cons.mpr ⟨cv2 hg, (fun _ h => absurd h List.not_mem_nil)⟩)
/-- LotBeliefs.Sentence.readPart -/
def ct77 : sxCt := (43, 11, (1, [], [], [(0, .inl 1), (1, .inl 3)], [], [(1, (0, .ofNat 7), .inr (false, (0, .ofNat 4)))], [], []), [(1, 4), (1, 5), (1, 6), (1, 7), (1, 8), (1, 9), (1, 10)], [
  (3, [(1, .negSucc 9223372036854775807, .ofNat 9223372036854775807), (2, .ofNat 0, .ofNat 4)], [], [], [.inr (true, (1, .ofNat 0))], [(1, (0, .ofNat 3), .inr (false, (2, .ofNat 0))), (1, (0, .ofNat 7), .inr (false, (0, .ofNat 4)))], [], [])], [], 0, 0)
def cu77 : List sxCu := []
set_option maxRecDepth 1000000 in
theorem cv77 {gh : sxGh} (hg : sxGd sxKw gh) : sxCtV sxKw gh ct77 := sxMeB_ok (cts := [ct71, ct72, ct75, ct76, ct3, ct5]) (cuts := cu77) (sp := []) 118 (by decide +kernel) hg (by decide) (by decide) (List.forall_mem_cons.mpr ⟨cv71 hg, (List.forall_mem_cons.mpr ⟨cv72 hg, (List.forall_mem_cons.mpr ⟨cv75 hg, (List.forall_mem_cons.mpr ⟨cv76 hg, (List.forall_mem_cons.mpr ⟨cv3 hg, (List.forall_mem_cons.mpr ⟨cv5 hg, (fun _ h => absurd h List.not_mem_nil)⟩)⟩)⟩)⟩)⟩)⟩)
/-- LotBeliefs.Sentence.readNot -/
def ct78 : sxCt := (44, 12, (1, [], [], [(0, .inl 1), (1, .inl 3)], [], [(1, (0, .ofNat 7), .inr (false, (0, .ofNat 3)))], [], []), [(1, 4), (1, 5), (1, 6), (1, 7), (1, 8), (1, 9), (1, 10)], [
  (3, [(1, .negSucc 9223372036854775807, .ofNat 9223372036854775807), (2, .ofNat 0, .ofNat 4)], [], [], [.inr (true, (1, .ofNat 0))], [(1, (0, .ofNat 3), .inr (false, (2, .ofNat 0))), (1, (0, .ofNat 7), .inr (false, (0, .ofNat 3)))], [], [])], [], 0, 0)
def cu78 : List sxCu := []
set_option maxRecDepth 1000000 in
theorem cv78 {gh : sxGh} (hg : sxGd sxKw gh) : sxCtV sxKw gh ct78 := sxMeB_ok (cts := [ct77, ct2]) (cuts := cu78) (sp := []) 99 (by decide +kernel) hg (by decide) (by decide) (List.forall_mem_cons.mpr ⟨cv77 hg, (List.forall_mem_cons.mpr ⟨cv2 hg, (fun _ h => absurd h List.not_mem_nil)⟩)⟩)
/-- LotBeliefs.Sentence.readIf -/
def ct79 : sxCt := (45, 12, (1, [], [], [(0, .inl 1), (1, .inl 3)], [], [(1, (0, .ofNat 7), .inr (false, (0, .ofNat 3)))], [], []), [(1, 4), (1, 5), (1, 6), (1, 7), (1, 8), (1, 9), (1, 10)], [
  (3, [(1, .negSucc 9223372036854775807, .ofNat 9223372036854775807), (2, .ofNat 0, .ofNat 4)], [], [], [.inr (true, (1, .ofNat 0))], [(1, (0, .ofNat 3), .inr (false, (2, .ofNat 0))), (1, (0, .ofNat 7), .inr (false, (0, .ofNat 3)))], [], [])], [], 0, 0)
def cu79 : List sxCu := []
set_option maxRecDepth 1000000 in
theorem cv79 {gh : sxGh} (hg : sxGd sxKw gh) : sxCtV sxKw gh ct79 := sxMeB_ok (cts := [ct77, ct2, ct11]) (cuts := cu79) (sp := []) 177 (by decide +kernel) hg (by decide) (by decide) (List.forall_mem_cons.mpr ⟨cv77 hg, (List.forall_mem_cons.mpr ⟨cv2 hg, (List.forall_mem_cons.mpr ⟨cv11 hg, (fun _ h => absurd h List.not_mem_nil)⟩)⟩)⟩)
/-- LotBeliefs.Sentence.readEach -/
def ct80 : sxCt := (42, 12, (1, [], [], [(0, .inl 1), (1, .inl 3)], [], [(1, (0, .ofNat 7), .inr (false, (0, .ofNat 4)))], [], []), [(1, 4), (1, 5), (1, 6), (1, 7), (1, 8), (1, 9), (1, 10)], [
  (3, [(1, .negSucc 9223372036854775807, .ofNat 9223372036854775807), (2, .ofNat 0, .ofNat 4)], [], [], [.inr (true, (1, .ofNat 0))], [(1, (0, .ofNat 3), .inr (false, (2, .ofNat 0))), (1, (0, .ofNat 7), .inr (false, (0, .ofNat 4)))], [], [])], [], 0, 0)
def cu80 : List sxCu := [
  (9, (4, [(1, .negSucc 9223372036854775807, .ofNat 9223372036854775807), (2, .ofNat 0, .ofNat 600), (3, .ofNat 0, .ofNat 4)], [], [(0, .inl 1), (1, .inl 3), (2, .inr (true, (1, .ofNat 0))), (4, .inr (false, (2, .ofNat 0)))], [], [(1, (0, .ofNat 3), .inr (false, (3, .ofNat 0))), (1, (0, .ofNat 7), .inr (false, (0, .ofNat 4)))], [], []), ((0, 2, .ofNat 600), (0, 0, .ofNat 0), (0, 0, .ofNat 0)), 0, 0)]
set_option maxRecDepth 1000000 in
theorem cv80 {gh : sxGh} (hg : sxGd sxKw gh) : sxCtV sxKw gh ct80 := sxMeB_ok (cts := [ct77, ct2, ct13]) (cuts := cu80) (sp := []) 92 (by decide +kernel) hg (by decide) (by decide) (List.forall_mem_cons.mpr ⟨cv77 hg, (List.forall_mem_cons.mpr ⟨cv2 hg, (List.forall_mem_cons.mpr ⟨cv13 hg, (fun _ h => absurd h List.not_mem_nil)⟩)⟩)⟩)
/-- LotBeliefs.Sentence.readEither -/
def ct81 : sxCt := (41, 13, (1, [], [], [(0, .inl 1), (1, .inl 3)], [], [(1, (0, .ofNat 7), .inr (false, (0, .ofNat 4)))], [], []), [(1, 4), (1, 5), (1, 6), (1, 7), (1, 8), (1, 9), (1, 10)], [
  (3, [(1, .negSucc 9223372036854775807, .ofNat 9223372036854775807), (2, .ofNat 0, .ofNat 4)], [], [], [.inr (true, (1, .ofNat 0))], [(1, (0, .ofNat 3), .inr (false, (2, .ofNat 0))), (1, (0, .ofNat 7), .inr (false, (0, .ofNat 4)))], [], [])], [], 0, 0)
def cu81 : List sxCu := [
  (9, (4, [(1, .negSucc 9223372036854775807, .ofNat 9223372036854775807), (2, .ofNat 0, .ofNat 600), (3, .ofNat 0, .ofNat 4)], [], [(0, .inl 1), (1, .inl 3), (2, .inr (true, (1, .ofNat 0))), (4, .inr (false, (2, .ofNat 0)))], [], [(1, (0, .ofNat 3), .inr (false, (3, .ofNat 0))), (1, (0, .ofNat 7), .inr (false, (0, .ofNat 4)))], [], []), ((0, 2, .ofNat 600), (0, 0, .ofNat 0), (0, 0, .ofNat 0)), 0, 0)]
set_option maxRecDepth 1000000 in
theorem cv81 {gh : sxGh} (hg : sxGd sxKw gh) : sxCtV sxKw gh ct81 := sxMeB_ok (cts := [ct80, ct2, ct15]) (cuts := cu81) (sp := []) 92 (by decide +kernel) hg (by decide) (by decide) (List.forall_mem_cons.mpr ⟨cv80 hg, (List.forall_mem_cons.mpr ⟨cv2 hg, (List.forall_mem_cons.mpr ⟨cv15 hg, (fun _ h => absurd h List.not_mem_nil)⟩)⟩)⟩)
/-- LotBeliefs.Sentence.readBrackets -/
def ct82 : sxCt := (46, 14, (1, [], [], [(0, .inl 1), (1, .inl 3)], [], [(1, (0, .ofNat 7), .inr (false, (0, .ofNat 3)))], [], []), [(1, 4), (1, 5), (1, 6), (1, 7), (1, 8), (1, 9), (1, 10)], [
  (3, [(1, .negSucc 9223372036854775807, .ofNat 9223372036854775807), (2, .ofNat 0, .ofNat 4)], [], [], [.inr (true, (1, .ofNat 0))], [(1, (0, .ofNat 3), .inr (false, (2, .ofNat 0))), (1, (0, .ofNat 7), .inr (false, (0, .ofNat 3)))], [], [])], [], 0, 0)
def cu82 : List sxCu := []
set_option maxRecDepth 1000000 in
theorem cv82 {gh : sxGh} (hg : sxGd sxKw gh) : sxCtV sxKw gh ct82 := sxMeB_ok (cts := [ct81, ct2]) (cuts := cu82) (sp := []) 196 (by decide +kernel) hg (by decide) (by decide) (List.forall_mem_cons.mpr ⟨cv81 hg, (List.forall_mem_cons.mpr ⟨cv2 hg, (fun _ h => absurd h List.not_mem_nil)⟩)⟩)
/-- LotBeliefs.Sentence.readAtom -/
def ct83 : sxCt := (47, 1, (1, [], [], [(0, .inl 1), (1, .inl 3)], [], [(1, (0, .ofNat 7), .inr (false, (0, .ofNat 3)))], [], []), [(1, 4), (1, 5), (1, 6), (1, 7), (1, 9), (1, 10)], [
  (3, [(1, .negSucc 9223372036854775807, .ofNat 9223372036854775807), (2, .ofNat 0, .ofNat 4)], [], [], [.inr (true, (1, .ofNat 0))], [(1, (0, .ofNat 3), .inr (false, (2, .ofNat 0))), (1, (0, .ofNat 7), .inr (false, (0, .ofNat 3)))], [], [])], [], 0, 0)
def cu83 : List sxCu := []
set_option maxRecDepth 1000000 in
theorem cv83 {gh : sxGh} (hg : sxGd sxKw gh) : sxCtV sxKw gh ct83 := sxMeB_ok (cts := [ct2]) (cuts := cu83) (sp := []) 222 (by decide +kernel) hg (by decide) (by decide) (List.forall_mem_cons.mpr ⟨cv2 hg, (fun _ h => absurd h List.not_mem_nil)⟩)
/-- LotBeliefs.Sentence.readPart -/
def ct84 : sxCt := (43, 15, (1, [], [], [(0, .inl 1), (1, .inl 3)], [], [(1, (0, .ofNat 7), .inr (false, (0, .ofNat 3)))], [], []), [(1, 4), (1, 5), (1, 6), (1, 7), (1, 8), (1, 9), (1, 10)], [
  (3, [(1, .negSucc 9223372036854775807, .ofNat 9223372036854775807), (2, .ofNat 0, .ofNat 4)], [], [], [.inr (true, (1, .ofNat 0))], [(1, (0, .ofNat 3), .inr (false, (2, .ofNat 0))), (1, (0, .ofNat 7), .inr (false, (0, .ofNat 3)))], [], [])], [], 0, 0)
def cu84 : List sxCu := []
set_option maxRecDepth 1000000 in
theorem cv84 {gh : sxGh} (hg : sxGd sxKw gh) : sxCtV sxKw gh ct84 := sxMeB_ok (cts := [ct78, ct79, ct82, ct83, ct3, ct5]) (cuts := cu84) (sp := []) 118 (by decide +kernel) hg (by decide) (by decide) (List.forall_mem_cons.mpr ⟨cv78 hg, (List.forall_mem_cons.mpr ⟨cv79 hg, (List.forall_mem_cons.mpr ⟨cv82 hg, (List.forall_mem_cons.mpr ⟨cv83 hg, (List.forall_mem_cons.mpr ⟨cv3 hg, (List.forall_mem_cons.mpr ⟨cv5 hg, (fun _ h => absurd h List.not_mem_nil)⟩)⟩)⟩)⟩)⟩)⟩)
/-- LotBeliefs.Sentence.readNot -/
def ct85 : sxCt := (44, 16, (1, [], [], [(0, .inl 1), (1, .inl 3)], [], [(1, (0, .ofNat 7), .inr (false, (0, .ofNat 2)))], [], []), [(1, 4), (1, 5), (1, 6), (1, 7), (1, 8), (1, 9), (1, 10)], [
  (3, [(1, .negSucc 9223372036854775807, .ofNat 9223372036854775807), (2, .ofNat 0, .ofNat 4)], [], [], [.inr (true, (1, .ofNat 0))], [(1, (0, .ofNat 3), .inr (false, (2, .ofNat 0))), (1, (0, .ofNat 7), .inr (false, (0, .ofNat 2)))], [], [])], [], 0, 0)
def cu85 : List sxCu := []
set_option maxRecDepth 1000000 in
theorem cv85 {gh : sxGh} (hg : sxGd sxKw gh) : sxCtV sxKw gh ct85 := sxMeB_ok (cts := [ct84, ct2]) (cuts := cu85) (sp := []) 99 (by decide +kernel) hg (by decide) (by decide) (List.forall_mem_cons.mpr ⟨cv84 hg, (List.forall_mem_cons.mpr ⟨cv2 hg, (fun _ h => absurd h List.not_mem_nil)⟩)⟩)
/-- LotBeliefs.Sentence.readIf -/
def ct86 : sxCt := (45, 16, (1, [], [], [(0, .inl 1), (1, .inl 3)], [], [(1, (0, .ofNat 7), .inr (false, (0, .ofNat 2)))], [], []), [(1, 4), (1, 5), (1, 6), (1, 7), (1, 8), (1, 9), (1, 10)], [
  (3, [(1, .negSucc 9223372036854775807, .ofNat 9223372036854775807), (2, .ofNat 0, .ofNat 4)], [], [], [.inr (true, (1, .ofNat 0))], [(1, (0, .ofNat 3), .inr (false, (2, .ofNat 0))), (1, (0, .ofNat 7), .inr (false, (0, .ofNat 2)))], [], [])], [], 0, 0)
def cu86 : List sxCu := []
set_option maxRecDepth 1000000 in
theorem cv86 {gh : sxGh} (hg : sxGd sxKw gh) : sxCtV sxKw gh ct86 := sxMeB_ok (cts := [ct84, ct2, ct11]) (cuts := cu86) (sp := []) 177 (by decide +kernel) hg (by decide) (by decide) (List.forall_mem_cons.mpr ⟨cv84 hg, (List.forall_mem_cons.mpr ⟨cv2 hg, (List.forall_mem_cons.mpr ⟨cv11 hg, (fun _ h => absurd h List.not_mem_nil)⟩)⟩)⟩)
/-- LotBeliefs.Sentence.readEach -/
def ct87 : sxCt := (42, 16, (1, [], [], [(0, .inl 1), (1, .inl 3)], [], [(1, (0, .ofNat 7), .inr (false, (0, .ofNat 3)))], [], []), [(1, 4), (1, 5), (1, 6), (1, 7), (1, 8), (1, 9), (1, 10)], [
  (3, [(1, .negSucc 9223372036854775807, .ofNat 9223372036854775807), (2, .ofNat 0, .ofNat 4)], [], [], [.inr (true, (1, .ofNat 0))], [(1, (0, .ofNat 3), .inr (false, (2, .ofNat 0))), (1, (0, .ofNat 7), .inr (false, (0, .ofNat 3)))], [], [])], [], 0, 0)
def cu87 : List sxCu := [
  (9, (4, [(1, .negSucc 9223372036854775807, .ofNat 9223372036854775807), (2, .ofNat 0, .ofNat 600), (3, .ofNat 0, .ofNat 4)], [], [(0, .inl 1), (1, .inl 3), (2, .inr (true, (1, .ofNat 0))), (4, .inr (false, (2, .ofNat 0)))], [], [(1, (0, .ofNat 3), .inr (false, (3, .ofNat 0))), (1, (0, .ofNat 7), .inr (false, (0, .ofNat 3)))], [], []), ((0, 2, .ofNat 600), (0, 0, .ofNat 0), (0, 0, .ofNat 0)), 0, 0)]
set_option maxRecDepth 1000000 in
theorem cv87 {gh : sxGh} (hg : sxGd sxKw gh) : sxCtV sxKw gh ct87 := sxMeB_ok (cts := [ct84, ct2, ct13]) (cuts := cu87) (sp := []) 92 (by decide +kernel) hg (by decide) (by decide) (List.forall_mem_cons.mpr ⟨cv84 hg, (List.forall_mem_cons.mpr ⟨cv2 hg, (List.forall_mem_cons.mpr ⟨cv13 hg, (fun _ h => absurd h List.not_mem_nil)⟩)⟩)⟩)
/-- LotBeliefs.Sentence.readEither -/
def ct88 : sxCt := (41, 17, (1, [], [], [(0, .inl 1), (1, .inl 3)], [], [(1, (0, .ofNat 7), .inr (false, (0, .ofNat 3)))], [], []), [(1, 4), (1, 5), (1, 6), (1, 7), (1, 8), (1, 9), (1, 10)], [
  (3, [(1, .negSucc 9223372036854775807, .ofNat 9223372036854775807), (2, .ofNat 0, .ofNat 4)], [], [], [.inr (true, (1, .ofNat 0))], [(1, (0, .ofNat 3), .inr (false, (2, .ofNat 0))), (1, (0, .ofNat 7), .inr (false, (0, .ofNat 3)))], [], [])], [], 0, 0)
def cu88 : List sxCu := [
  (9, (4, [(1, .negSucc 9223372036854775807, .ofNat 9223372036854775807), (2, .ofNat 0, .ofNat 600), (3, .ofNat 0, .ofNat 4)], [], [(0, .inl 1), (1, .inl 3), (2, .inr (true, (1, .ofNat 0))), (4, .inr (false, (2, .ofNat 0)))], [], [(1, (0, .ofNat 3), .inr (false, (3, .ofNat 0))), (1, (0, .ofNat 7), .inr (false, (0, .ofNat 3)))], [], []), ((0, 2, .ofNat 600), (0, 0, .ofNat 0), (0, 0, .ofNat 0)), 0, 0)]
set_option maxRecDepth 1000000 in
theorem cv88 {gh : sxGh} (hg : sxGd sxKw gh) : sxCtV sxKw gh ct88 := sxMeB_ok (cts := [ct87, ct2, ct15]) (cuts := cu88) (sp := []) 92 (by decide +kernel) hg (by decide) (by decide) (List.forall_mem_cons.mpr ⟨cv87 hg, (List.forall_mem_cons.mpr ⟨cv2 hg, (List.forall_mem_cons.mpr ⟨cv15 hg, (fun _ h => absurd h List.not_mem_nil)⟩)⟩)⟩)
/-- LotBeliefs.Sentence.readBrackets -/
def ct89 : sxCt := (46, 18, (1, [], [], [(0, .inl 1), (1, .inl 3)], [], [(1, (0, .ofNat 7), .inr (false, (0, .ofNat 2)))], [], []), [(1, 4), (1, 5), (1, 6), (1, 7), (1, 8), (1, 9), (1, 10)], [
  (3, [(1, .negSucc 9223372036854775807, .ofNat 9223372036854775807), (2, .ofNat 0, .ofNat 4)], [], [], [.inr (true, (1, .ofNat 0))], [(1, (0, .ofNat 3), .inr (false, (2, .ofNat 0))), (1, (0, .ofNat 7), .inr (false, (0, .ofNat 2)))], [], [])], [], 0, 0)
def cu89 : List sxCu := []
set_option maxRecDepth 1000000 in
theorem cv89 {gh : sxGh} (hg : sxGd sxKw gh) : sxCtV sxKw gh ct89 := sxMeB_ok (cts := [ct88, ct2]) (cuts := cu89) (sp := []) 196 (by decide +kernel) hg (by decide) (by decide) (List.forall_mem_cons.mpr ⟨cv88 hg, (List.forall_mem_cons.mpr ⟨cv2 hg, (fun _ h => absurd h List.not_mem_nil)⟩)⟩)
/-- LotBeliefs.Sentence.readAtom -/
def ct90 : sxCt := (47, 1, (1, [], [], [(0, .inl 1), (1, .inl 3)], [], [(1, (0, .ofNat 7), .inr (false, (0, .ofNat 2)))], [], []), [(1, 4), (1, 5), (1, 6), (1, 7), (1, 9), (1, 10)], [
  (3, [(1, .negSucc 9223372036854775807, .ofNat 9223372036854775807), (2, .ofNat 0, .ofNat 4)], [], [], [.inr (true, (1, .ofNat 0))], [(1, (0, .ofNat 3), .inr (false, (2, .ofNat 0))), (1, (0, .ofNat 7), .inr (false, (0, .ofNat 2)))], [], [])], [], 0, 0)
def cu90 : List sxCu := []
set_option maxRecDepth 1000000 in
theorem cv90 {gh : sxGh} (hg : sxGd sxKw gh) : sxCtV sxKw gh ct90 := sxMeB_ok (cts := [ct2]) (cuts := cu90) (sp := []) 222 (by decide +kernel) hg (by decide) (by decide) (List.forall_mem_cons.mpr ⟨cv2 hg, (fun _ h => absurd h List.not_mem_nil)⟩)
/-- LotBeliefs.Sentence.readPart -/
def ct91 : sxCt := (43, 19, (1, [], [], [(0, .inl 1), (1, .inl 3)], [], [(1, (0, .ofNat 7), .inr (false, (0, .ofNat 2)))], [], []), [(1, 4), (1, 5), (1, 6), (1, 7), (1, 8), (1, 9), (1, 10)], [
  (3, [(1, .negSucc 9223372036854775807, .ofNat 9223372036854775807), (2, .ofNat 0, .ofNat 4)], [], [], [.inr (true, (1, .ofNat 0))], [(1, (0, .ofNat 3), .inr (false, (2, .ofNat 0))), (1, (0, .ofNat 7), .inr (false, (0, .ofNat 2)))], [], [])], [], 0, 0)
def cu91 : List sxCu := []
set_option maxRecDepth 1000000 in
theorem cv91 {gh : sxGh} (hg : sxGd sxKw gh) : sxCtV sxKw gh ct91 := sxMeB_ok (cts := [ct85, ct86, ct89, ct90, ct3, ct5]) (cuts := cu91) (sp := []) 118 (by decide +kernel) hg (by decide) (by decide) (List.forall_mem_cons.mpr ⟨cv85 hg, (List.forall_mem_cons.mpr ⟨cv86 hg, (List.forall_mem_cons.mpr ⟨cv89 hg, (List.forall_mem_cons.mpr ⟨cv90 hg, (List.forall_mem_cons.mpr ⟨cv3 hg, (List.forall_mem_cons.mpr ⟨cv5 hg, (fun _ h => absurd h List.not_mem_nil)⟩)⟩)⟩)⟩)⟩)⟩)
/-- LotBeliefs.Sentence.readNot -/
def ct92 : sxCt := (44, 20, (1, [], [], [(0, .inl 1), (1, .inl 3)], [], [(1, (0, .ofNat 7), .inr (false, (0, .ofNat 1)))], [], []), [(1, 4), (1, 5), (1, 6), (1, 7), (1, 8), (1, 9), (1, 10)], [
  (3, [(1, .negSucc 9223372036854775807, .ofNat 9223372036854775807), (2, .ofNat 0, .ofNat 4)], [], [], [.inr (true, (1, .ofNat 0))], [(1, (0, .ofNat 3), .inr (false, (2, .ofNat 0))), (1, (0, .ofNat 7), .inr (false, (0, .ofNat 1)))], [], [])], [], 0, 0)
def cu92 : List sxCu := []
set_option maxRecDepth 1000000 in
theorem cv92 {gh : sxGh} (hg : sxGd sxKw gh) : sxCtV sxKw gh ct92 := sxMeB_ok (cts := [ct91, ct2]) (cuts := cu92) (sp := []) 99 (by decide +kernel) hg (by decide) (by decide) (List.forall_mem_cons.mpr ⟨cv91 hg, (List.forall_mem_cons.mpr ⟨cv2 hg, (fun _ h => absurd h List.not_mem_nil)⟩)⟩)
/-- LotBeliefs.Sentence.readIf -/
def ct93 : sxCt := (45, 20, (1, [], [], [(0, .inl 1), (1, .inl 3)], [], [(1, (0, .ofNat 7), .inr (false, (0, .ofNat 1)))], [], []), [(1, 4), (1, 5), (1, 6), (1, 7), (1, 8), (1, 9), (1, 10)], [
  (3, [(1, .negSucc 9223372036854775807, .ofNat 9223372036854775807), (2, .ofNat 0, .ofNat 4)], [], [], [.inr (true, (1, .ofNat 0))], [(1, (0, .ofNat 3), .inr (false, (2, .ofNat 0))), (1, (0, .ofNat 7), .inr (false, (0, .ofNat 1)))], [], [])], [], 0, 0)
def cu93 : List sxCu := []
set_option maxRecDepth 1000000 in
theorem cv93 {gh : sxGh} (hg : sxGd sxKw gh) : sxCtV sxKw gh ct93 := sxMeB_ok (cts := [ct91, ct2, ct11]) (cuts := cu93) (sp := []) 177 (by decide +kernel) hg (by decide) (by decide) (List.forall_mem_cons.mpr ⟨cv91 hg, (List.forall_mem_cons.mpr ⟨cv2 hg, (List.forall_mem_cons.mpr ⟨cv11 hg, (fun _ h => absurd h List.not_mem_nil)⟩)⟩)⟩)
/-- LotBeliefs.Sentence.readEach -/
def ct94 : sxCt := (42, 20, (1, [], [], [(0, .inl 1), (1, .inl 3)], [], [(1, (0, .ofNat 7), .inr (false, (0, .ofNat 2)))], [], []), [(1, 4), (1, 5), (1, 6), (1, 7), (1, 8), (1, 9), (1, 10)], [
  (3, [(1, .negSucc 9223372036854775807, .ofNat 9223372036854775807), (2, .ofNat 0, .ofNat 4)], [], [], [.inr (true, (1, .ofNat 0))], [(1, (0, .ofNat 3), .inr (false, (2, .ofNat 0))), (1, (0, .ofNat 7), .inr (false, (0, .ofNat 2)))], [], [])], [], 0, 0)
def cu94 : List sxCu := [
  (9, (4, [(1, .negSucc 9223372036854775807, .ofNat 9223372036854775807), (2, .ofNat 0, .ofNat 600), (3, .ofNat 0, .ofNat 4)], [], [(0, .inl 1), (1, .inl 3), (2, .inr (true, (1, .ofNat 0))), (4, .inr (false, (2, .ofNat 0)))], [], [(1, (0, .ofNat 3), .inr (false, (3, .ofNat 0))), (1, (0, .ofNat 7), .inr (false, (0, .ofNat 2)))], [], []), ((0, 2, .ofNat 600), (0, 0, .ofNat 0), (0, 0, .ofNat 0)), 0, 0)]
set_option maxRecDepth 1000000 in
theorem cv94 {gh : sxGh} (hg : sxGd sxKw gh) : sxCtV sxKw gh ct94 := sxMeB_ok (cts := [ct91, ct2, ct13]) (cuts := cu94) (sp := []) 92 (by decide +kernel) hg (by decide) (by decide) (List.forall_mem_cons.mpr ⟨cv91 hg, (List.forall_mem_cons.mpr ⟨cv2 hg, (List.forall_mem_cons.mpr ⟨cv13 hg, (fun _ h => absurd h List.not_mem_nil)⟩)⟩)⟩)
/-- LotBeliefs.Sentence.readEither -/
def ct95 : sxCt := (41, 21, (1, [], [], [(0, .inl 1), (1, .inl 3)], [], [(1, (0, .ofNat 7), .inr (false, (0, .ofNat 2)))], [], []), [(1, 4), (1, 5), (1, 6), (1, 7), (1, 8), (1, 9), (1, 10)], [
  (3, [(1, .negSucc 9223372036854775807, .ofNat 9223372036854775807), (2, .ofNat 0, .ofNat 4)], [], [], [.inr (true, (1, .ofNat 0))], [(1, (0, .ofNat 3), .inr (false, (2, .ofNat 0))), (1, (0, .ofNat 7), .inr (false, (0, .ofNat 2)))], [], [])], [], 0, 0)
def cu95 : List sxCu := [
  (9, (4, [(1, .negSucc 9223372036854775807, .ofNat 9223372036854775807), (2, .ofNat 0, .ofNat 600), (3, .ofNat 0, .ofNat 4)], [], [(0, .inl 1), (1, .inl 3), (2, .inr (true, (1, .ofNat 0))), (4, .inr (false, (2, .ofNat 0)))], [], [(1, (0, .ofNat 3), .inr (false, (3, .ofNat 0))), (1, (0, .ofNat 7), .inr (false, (0, .ofNat 2)))], [], []), ((0, 2, .ofNat 600), (0, 0, .ofNat 0), (0, 0, .ofNat 0)), 0, 0)]
set_option maxRecDepth 1000000 in
theorem cv95 {gh : sxGh} (hg : sxGd sxKw gh) : sxCtV sxKw gh ct95 := sxMeB_ok (cts := [ct94, ct2, ct15]) (cuts := cu95) (sp := []) 92 (by decide +kernel) hg (by decide) (by decide) (List.forall_mem_cons.mpr ⟨cv94 hg, (List.forall_mem_cons.mpr ⟨cv2 hg, (List.forall_mem_cons.mpr ⟨cv15 hg, (fun _ h => absurd h List.not_mem_nil)⟩)⟩)⟩)
/-- LotBeliefs.Sentence.readBrackets -/
def ct96 : sxCt := (46, 22, (1, [], [], [(0, .inl 1), (1, .inl 3)], [], [(1, (0, .ofNat 7), .inr (false, (0, .ofNat 1)))], [], []), [(1, 4), (1, 5), (1, 6), (1, 7), (1, 8), (1, 9), (1, 10)], [
  (3, [(1, .negSucc 9223372036854775807, .ofNat 9223372036854775807), (2, .ofNat 0, .ofNat 4)], [], [], [.inr (true, (1, .ofNat 0))], [(1, (0, .ofNat 3), .inr (false, (2, .ofNat 0))), (1, (0, .ofNat 7), .inr (false, (0, .ofNat 1)))], [], [])], [], 0, 0)
def cu96 : List sxCu := []
set_option maxRecDepth 1000000 in
theorem cv96 {gh : sxGh} (hg : sxGd sxKw gh) : sxCtV sxKw gh ct96 := sxMeB_ok (cts := [ct95, ct2]) (cuts := cu96) (sp := []) 196 (by decide +kernel) hg (by decide) (by decide) (List.forall_mem_cons.mpr ⟨cv95 hg, (List.forall_mem_cons.mpr ⟨cv2 hg, (fun _ h => absurd h List.not_mem_nil)⟩)⟩)
/-- LotBeliefs.Sentence.readAtom -/
def ct97 : sxCt := (47, 1, (1, [], [], [(0, .inl 1), (1, .inl 3)], [], [(1, (0, .ofNat 7), .inr (false, (0, .ofNat 1)))], [], []), [(1, 4), (1, 5), (1, 6), (1, 7), (1, 9), (1, 10)], [
  (3, [(1, .negSucc 9223372036854775807, .ofNat 9223372036854775807), (2, .ofNat 0, .ofNat 4)], [], [], [.inr (true, (1, .ofNat 0))], [(1, (0, .ofNat 3), .inr (false, (2, .ofNat 0))), (1, (0, .ofNat 7), .inr (false, (0, .ofNat 1)))], [], [])], [], 0, 0)
def cu97 : List sxCu := []
set_option maxRecDepth 1000000 in
theorem cv97 {gh : sxGh} (hg : sxGd sxKw gh) : sxCtV sxKw gh ct97 := sxMeB_ok (cts := [ct2]) (cuts := cu97) (sp := []) 222 (by decide +kernel) hg (by decide) (by decide) (List.forall_mem_cons.mpr ⟨cv2 hg, (fun _ h => absurd h List.not_mem_nil)⟩)
/-- LotBeliefs.Sentence.readPart -/
def ct98 : sxCt := (43, 23, (1, [], [], [(0, .inl 1), (1, .inl 3)], [], [(1, (0, .ofNat 7), .inr (false, (0, .ofNat 1)))], [], []), [(1, 4), (1, 5), (1, 6), (1, 7), (1, 8), (1, 9), (1, 10)], [
  (3, [(1, .negSucc 9223372036854775807, .ofNat 9223372036854775807), (2, .ofNat 0, .ofNat 4)], [], [], [.inr (true, (1, .ofNat 0))], [(1, (0, .ofNat 3), .inr (false, (2, .ofNat 0))), (1, (0, .ofNat 7), .inr (false, (0, .ofNat 1)))], [], [])], [], 0, 0)
def cu98 : List sxCu := []
set_option maxRecDepth 1000000 in
theorem cv98 {gh : sxGh} (hg : sxGd sxKw gh) : sxCtV sxKw gh ct98 := sxMeB_ok (cts := [ct92, ct93, ct96, ct97, ct3, ct5]) (cuts := cu98) (sp := []) 118 (by decide +kernel) hg (by decide) (by decide) (List.forall_mem_cons.mpr ⟨cv92 hg, (List.forall_mem_cons.mpr ⟨cv93 hg, (List.forall_mem_cons.mpr ⟨cv96 hg, (List.forall_mem_cons.mpr ⟨cv97 hg, (List.forall_mem_cons.mpr ⟨cv3 hg, (List.forall_mem_cons.mpr ⟨cv5 hg, (fun _ h => absurd h List.not_mem_nil)⟩)⟩)⟩)⟩)⟩)⟩)
/-- LotBeliefs.Sentence.readNot -/
def ct99 : sxCt := (44, 24, (1, [], [], [(0, .inl 1), (1, .inl 3)], [], [(1, (0, .ofNat 7), .inr (false, (0, .ofNat 0)))], [], []), [(1, 4), (1, 5), (1, 6), (1, 7), (1, 8), (1, 9), (1, 10)], [
  (3, [(1, .negSucc 9223372036854775807, .ofNat 9223372036854775807), (2, .ofNat 0, .ofNat 4)], [], [], [.inr (true, (1, .ofNat 0))], [(1, (0, .ofNat 3), .inr (false, (2, .ofNat 0))), (1, (0, .ofNat 7), .inr (false, (0, .ofNat 0)))], [], [])], [], 0, 0)
def cu99 : List sxCu := []
set_option maxRecDepth 1000000 in
theorem cv99 {gh : sxGh} (hg : sxGd sxKw gh) : sxCtV sxKw gh ct99 := sxMeB_ok (cts := [ct98, ct2]) (cuts := cu99) (sp := []) 99 (by decide +kernel) hg (by decide) (by decide) (List.forall_mem_cons.mpr ⟨cv98 hg, (List.forall_mem_cons.mpr ⟨cv2 hg, (fun _ h => absurd h List.not_mem_nil)⟩)⟩)
/-- LotBeliefs.Sentence.readIf -/
def ct100 : sxCt := (45, 24, (1, [], [], [(0, .inl 1), (1, .inl 3)], [], [(1, (0, .ofNat 7), .inr (false, (0, .ofNat 0)))], [], []), [(1, 4), (1, 5), (1, 6), (1, 7), (1, 8), (1, 9), (1, 10)], [
  (3, [(1, .negSucc 9223372036854775807, .ofNat 9223372036854775807), (2, .ofNat 0, .ofNat 4)], [], [], [.inr (true, (1, .ofNat 0))], [(1, (0, .ofNat 3), .inr (false, (2, .ofNat 0))), (1, (0, .ofNat 7), .inr (false, (0, .ofNat 0)))], [], [])], [], 0, 0)
def cu100 : List sxCu := []
set_option maxRecDepth 1000000 in
theorem cv100 {gh : sxGh} (hg : sxGd sxKw gh) : sxCtV sxKw gh ct100 := sxMeB_ok (cts := [ct98, ct2, ct11]) (cuts := cu100) (sp := []) 177 (by decide +kernel) hg (by decide) (by decide) (List.forall_mem_cons.mpr ⟨cv98 hg, (List.forall_mem_cons.mpr ⟨cv2 hg, (List.forall_mem_cons.mpr ⟨cv11 hg, (fun _ h => absurd h List.not_mem_nil)⟩)⟩)⟩)
/-- LotBeliefs.Sentence.readEach -/
def ct101 : sxCt := (42, 24, (1, [], [], [(0, .inl 1), (1, .inl 3)], [], [(1, (0, .ofNat 7), .inr (false, (0, .ofNat 1)))], [], []), [(1, 4), (1, 5), (1, 6), (1, 7), (1, 8), (1, 9), (1, 10)], [
  (3, [(1, .negSucc 9223372036854775807, .ofNat 9223372036854775807), (2, .ofNat 0, .ofNat 4)], [], [], [.inr (true, (1, .ofNat 0))], [(1, (0, .ofNat 3), .inr (false, (2, .ofNat 0))), (1, (0, .ofNat 7), .inr (false, (0, .ofNat 1)))], [], [])], [], 0, 0)
def cu101 : List sxCu := [
  (9, (4, [(1, .negSucc 9223372036854775807, .ofNat 9223372036854775807), (2, .ofNat 0, .ofNat 600), (3, .ofNat 0, .ofNat 4)], [], [(0, .inl 1), (1, .inl 3), (2, .inr (true, (1, .ofNat 0))), (4, .inr (false, (2, .ofNat 0)))], [], [(1, (0, .ofNat 3), .inr (false, (3, .ofNat 0))), (1, (0, .ofNat 7), .inr (false, (0, .ofNat 1)))], [], []), ((0, 2, .ofNat 600), (0, 0, .ofNat 0), (0, 0, .ofNat 0)), 0, 0)]
set_option maxRecDepth 1000000 in
theorem cv101 {gh : sxGh} (hg : sxGd sxKw gh) : sxCtV sxKw gh ct101 := sxMeB_ok (cts := [ct98, ct2, ct13]) (cuts := cu101) (sp := []) 92 (by decide +kernel) hg (by decide) (by decide) (List.forall_mem_cons.mpr ⟨cv98 hg, (List.forall_mem_cons.mpr ⟨cv2 hg, (List.forall_mem_cons.mpr ⟨cv13 hg, (fun _ h => absurd h List.not_mem_nil)⟩)⟩)⟩)
/-- LotBeliefs.Sentence.readEither -/
def ct102 : sxCt := (41, 25, (1, [], [], [(0, .inl 1), (1, .inl 3)], [], [(1, (0, .ofNat 7), .inr (false, (0, .ofNat 1)))], [], []), [(1, 4), (1, 5), (1, 6), (1, 7), (1, 8), (1, 9), (1, 10)], [
  (3, [(1, .negSucc 9223372036854775807, .ofNat 9223372036854775807), (2, .ofNat 0, .ofNat 4)], [], [], [.inr (true, (1, .ofNat 0))], [(1, (0, .ofNat 3), .inr (false, (2, .ofNat 0))), (1, (0, .ofNat 7), .inr (false, (0, .ofNat 1)))], [], [])], [], 0, 0)
def cu102 : List sxCu := [
  (9, (4, [(1, .negSucc 9223372036854775807, .ofNat 9223372036854775807), (2, .ofNat 0, .ofNat 600), (3, .ofNat 0, .ofNat 4)], [], [(0, .inl 1), (1, .inl 3), (2, .inr (true, (1, .ofNat 0))), (4, .inr (false, (2, .ofNat 0)))], [], [(1, (0, .ofNat 3), .inr (false, (3, .ofNat 0))), (1, (0, .ofNat 7), .inr (false, (0, .ofNat 1)))], [], []), ((0, 2, .ofNat 600), (0, 0, .ofNat 0), (0, 0, .ofNat 0)), 0, 0)]
set_option maxRecDepth 1000000 in
theorem cv102 {gh : sxGh} (hg : sxGd sxKw gh) : sxCtV sxKw gh ct102 := sxMeB_ok (cts := [ct101, ct2, ct15]) (cuts := cu102) (sp := []) 92 (by decide +kernel) hg (by decide) (by decide) (List.forall_mem_cons.mpr ⟨cv101 hg, (List.forall_mem_cons.mpr ⟨cv2 hg, (List.forall_mem_cons.mpr ⟨cv15 hg, (fun _ h => absurd h List.not_mem_nil)⟩)⟩)⟩)
/-- LotBeliefs.Sentence.readBrackets -/
def ct103 : sxCt := (46, 26, (1, [], [], [(0, .inl 1), (1, .inl 3)], [], [(1, (0, .ofNat 7), .inr (false, (0, .ofNat 0)))], [], []), [(1, 4), (1, 5), (1, 6), (1, 7), (1, 8), (1, 9), (1, 10)], [
  (3, [(1, .negSucc 9223372036854775807, .ofNat 9223372036854775807), (2, .ofNat 0, .ofNat 4)], [], [], [.inr (true, (1, .ofNat 0))], [(1, (0, .ofNat 3), .inr (false, (2, .ofNat 0))), (1, (0, .ofNat 7), .inr (false, (0, .ofNat 0)))], [], [])], [], 0, 0)
def cu103 : List sxCu := []
set_option maxRecDepth 1000000 in
theorem cv103 {gh : sxGh} (hg : sxGd sxKw gh) : sxCtV sxKw gh ct103 := sxMeB_ok (cts := [ct102, ct2]) (cuts := cu103) (sp := []) 196 (by decide +kernel) hg (by decide) (by decide) (List.forall_mem_cons.mpr ⟨cv102 hg, (List.forall_mem_cons.mpr ⟨cv2 hg, (fun _ h => absurd h List.not_mem_nil)⟩)⟩)
/-- LotBeliefs.Sentence.readAtom -/
def ct104 : sxCt := (47, 1, (1, [], [], [(0, .inl 1), (1, .inl 3)], [], [(1, (0, .ofNat 7), .inr (false, (0, .ofNat 0)))], [], []), [(1, 4), (1, 5), (1, 6), (1, 7), (1, 9), (1, 10)], [
  (3, [(1, .negSucc 9223372036854775807, .ofNat 9223372036854775807), (2, .ofNat 0, .ofNat 4)], [], [], [.inr (true, (1, .ofNat 0))], [(1, (0, .ofNat 3), .inr (false, (2, .ofNat 0))), (1, (0, .ofNat 7), .inr (false, (0, .ofNat 0)))], [], [])], [], 0, 0)
def cu104 : List sxCu := []
set_option maxRecDepth 1000000 in
theorem cv104 {gh : sxGh} (hg : sxGd sxKw gh) : sxCtV sxKw gh ct104 := sxMeB_ok (cts := [ct2]) (cuts := cu104) (sp := []) 222 (by decide +kernel) hg (by decide) (by decide) (List.forall_mem_cons.mpr ⟨cv2 hg, (fun _ h => absurd h List.not_mem_nil)⟩)
/-- LotBeliefs.Sentence.readPart -/
def ct105 : sxCt := (43, 27, (1, [], [], [(0, .inl 1), (1, .inl 3)], [], [(1, (0, .ofNat 7), .inr (false, (0, .ofNat 0)))], [], []), [(1, 4), (1, 5), (1, 6), (1, 7), (1, 8), (1, 9), (1, 10)], [
  (3, [(1, .negSucc 9223372036854775807, .ofNat 9223372036854775807), (2, .ofNat 0, .ofNat 4)], [], [], [.inr (true, (1, .ofNat 0))], [(1, (0, .ofNat 3), .inr (false, (2, .ofNat 0))), (1, (0, .ofNat 7), .inr (false, (0, .ofNat 0)))], [], [])], [], 0, 0)
def cu105 : List sxCu := []
set_option maxRecDepth 1000000 in
theorem cv105 {gh : sxGh} (hg : sxGd sxKw gh) : sxCtV sxKw gh ct105 := sxMeB_ok (cts := [ct99, ct100, ct103, ct104, ct3, ct5]) (cuts := cu105) (sp := []) 118 (by decide +kernel) hg (by decide) (by decide) (List.forall_mem_cons.mpr ⟨cv99 hg, (List.forall_mem_cons.mpr ⟨cv100 hg, (List.forall_mem_cons.mpr ⟨cv103 hg, (List.forall_mem_cons.mpr ⟨cv104 hg, (List.forall_mem_cons.mpr ⟨cv3 hg, (List.forall_mem_cons.mpr ⟨cv5 hg, (fun _ h => absurd h List.not_mem_nil)⟩)⟩)⟩)⟩)⟩)⟩)
/-- LotBeliefs.Sentence.readEach -/
def ct106 : sxCt := (42, 28, (1, [], [], [(0, .inl 1), (1, .inl 3)], [], [(1, (0, .ofNat 7), .inr (false, (0, .ofNat 0)))], [], []), [(1, 4), (1, 5), (1, 6), (1, 7), (1, 8), (1, 9), (1, 10)], [
  (3, [(1, .negSucc 9223372036854775807, .ofNat 9223372036854775807), (2, .ofNat 0, .ofNat 4)], [], [], [.inr (true, (1, .ofNat 0))], [(1, (0, .ofNat 3), .inr (false, (2, .ofNat 0))), (1, (0, .ofNat 7), .inr (false, (0, .ofNat 0)))], [], [])], [], 0, 0)
def cu106 : List sxCu := [
  (9, (4, [(1, .negSucc 9223372036854775807, .ofNat 9223372036854775807), (2, .ofNat 0, .ofNat 600), (3, .ofNat 0, .ofNat 4)], [], [(0, .inl 1), (1, .inl 3), (2, .inr (true, (1, .ofNat 0))), (4, .inr (false, (2, .ofNat 0)))], [], [(1, (0, .ofNat 3), .inr (false, (3, .ofNat 0))), (1, (0, .ofNat 7), .inr (false, (0, .ofNat 0)))], [], []), ((0, 2, .ofNat 600), (0, 0, .ofNat 0), (0, 0, .ofNat 0)), 0, 0)]
set_option maxRecDepth 1000000 in
theorem cv106 {gh : sxGh} (hg : sxGd sxKw gh) : sxCtV sxKw gh ct106 := sxMeB_ok (cts := [ct105, ct2, ct13]) (cuts := cu106) (sp := []) 92 (by decide +kernel) hg (by decide) (by decide) (List.forall_mem_cons.mpr ⟨cv105 hg, (List.forall_mem_cons.mpr ⟨cv2 hg, (List.forall_mem_cons.mpr ⟨cv13 hg, (fun _ h => absurd h List.not_mem_nil)⟩)⟩)⟩)
/-- LotBeliefs.Sentence.readEither -/
def ct107 : sxCt := (41, 29, (1, [], [], [(0, .inl 1), (1, .inl 3)], [], [(1, (0, .ofNat 7), .inr (false, (0, .ofNat 0)))], [], []), [(1, 4), (1, 5), (1, 6), (1, 7), (1, 8), (1, 9), (1, 10)], [
  (3, [(1, .negSucc 9223372036854775807, .ofNat 9223372036854775807), (2, .ofNat 0, .ofNat 4)], [], [], [.inr (true, (1, .ofNat 0))], [(1, (0, .ofNat 3), .inr (false, (2, .ofNat 0))), (1, (0, .ofNat 7), .inr (false, (0, .ofNat 0)))], [], [])], [], 0, 0)
def cu107 : List sxCu := [
  (9, (4, [(1, .negSucc 9223372036854775807, .ofNat 9223372036854775807), (2, .ofNat 0, .ofNat 600), (3, .ofNat 0, .ofNat 4)], [], [(0, .inl 1), (1, .inl 3), (2, .inr (true, (1, .ofNat 0))), (4, .inr (false, (2, .ofNat 0)))], [], [(1, (0, .ofNat 3), .inr (false, (3, .ofNat 0))), (1, (0, .ofNat 7), .inr (false, (0, .ofNat 0)))], [], []), ((0, 2, .ofNat 600), (0, 0, .ofNat 0), (0, 0, .ofNat 0)), 0, 0)]
set_option maxRecDepth 1000000 in
theorem cv107 {gh : sxGh} (hg : sxGd sxKw gh) : sxCtV sxKw gh ct107 := sxMeB_ok (cts := [ct106, ct2, ct15]) (cuts := cu107) (sp := []) 92 (by decide +kernel) hg (by decide) (by decide) (List.forall_mem_cons.mpr ⟨cv106 hg, (List.forall_mem_cons.mpr ⟨cv2 hg, (List.forall_mem_cons.mpr ⟨cv15 hg, (fun _ h => absurd h List.not_mem_nil)⟩)⟩)⟩)
/-- LotBeliefs.Sentence.readAlone -/
def ct108 : sxCt := (40, 30, (1, [], [], [(0, .inl 1), (1, .inl 3)], [], [(1, (0, .ofNat 7), .inr (false, (0, .ofNat 0)))], [], []), [(1, 4), (1, 5), (1, 6), (1, 7), (1, 8), (1, 9), (1, 10)], [
  (3, [(1, .negSucc 9223372036854775807, .ofNat 9223372036854775807), (2, .ofNat 0, .ofNat 4)], [], [], [.inr (true, (1, .ofNat 0))], [(1, (0, .ofNat 3), .inr (false, (2, .ofNat 0))), (1, (0, .ofNat 7), .inr (false, (0, .ofNat 0)))], [], [])], [], 0, 0)
def cu108 : List sxCu := []
set_option maxRecDepth 1000000 in
theorem cv108 {gh : sxGh} (hg : sxGd sxKw gh) : sxCtV sxKw gh ct108 := sxMeB_ok (cts := [ct107]) (cuts := cu108) (sp := []) 108 (by decide +kernel) hg (by decide) (by decide) (List.forall_mem_cons.mpr ⟨cv107 hg, (fun _ h => absurd h List.not_mem_nil)⟩)
/-- LotBeliefs.question -/
def ct109 : sxCt := (115, 31, (3, [(1, .negSucc 2147483647, .ofNat 2147483647), (2, .ofNat 0, .ofNat 600)], [], [(0, .inl 0), (1, .inr (false, (1, .ofNat 0)))], [], [(1, (0, .ofNat 1), .inr (false, (2, .ofNat 0)))], [], []), [(0, 2), (0, 7), (1, 2), (1, 3), (1, 4), (1, 5), (1, 6), (1, 7), (1, 8), (1, 9), (1, 10), (30, 0)], [
  (8, [(1, .ofNat 0, .ofNat 200), (3, .negSucc 8, .ofNat 127), (4, .negSucc 0, .ofNat 600), (5, .ofNat 0, .ofNat 200), (6, .ofNat 0, .ofNat 4), (7, .ofNat 0, .ofNat 4)], [(1, 5, .ofNat 0), (5, 1, .ofNat 0), (5, 2, .ofNat 0), (7, 3, .ofNat 10), (1, 2, .ofNat 0)], [], [.inr (false, (3, .ofNat 0))], [(0, (0, .ofNat 1), .inr (false, (4, .ofNat 0))), (1, (0, .ofNat 1), .inr (false, (0, .ofNat 0))), (1, (0, .ofNat 2), .inr (false, (5, .ofNat 0))), (1, (0, .ofNat 3), .inr (false, (6, .ofNat 0))), (1, (0, .ofNat 7), .inr (false, (0, .ofNat 0))), (1, (0, .ofNat 8), .inr (false, (7, .ofNat 0))), (1, (0, .ofNat 9), .inr (false, (4, .ofNat 0)))], [], [])], [
  (1, (4, [(1, .ofNat 201, .ofNat 600), (2, .ofNat 201, .ofNat 600), (3, .negSucc 2147483647, .ofNat 2147483647)], [(1, 2, .ofNat 0)], [], [], [(1, (0, .ofNat 1), .inr (false, (2, .ofNat 0))), (30, (0, .ofNat 1), .inr (false, (3, .ofNat 0)))], [], [])), 
  (1, (4, [(1, .ofNat 1, .ofNat 2147483647), (3, .negSucc 2147483647, .ofNat 2147483647)], [(2, 1, .negSucc 0)], [], [], [(1, (0, .ofNat 1), .inr (false, (2, .ofNat 0))), (30, (0, .ofNat 1), .inr (false, (3, .ofNat 0)))], [], [])), 
  (1, (4, [(1, .negSucc 2147483647, .negSucc 0), (3, .negSucc 2147483647, .ofNat 2147483647)], [(1, 2, .ofNat 0)], [], [], [(1, (0, .ofNat 1), .inr (false, (2, .ofNat 0))), (30, (0, .ofNat 1), .inr (false, (3, .ofNat 0)))], [], []))], 1, 6)
def cu109 : List sxCu := []
set_option maxRecDepth 1000000 in
theorem cv109 {gh : sxGh} (hg : sxGd sxKw gh) : sxCtV sxKw gh ct109 := sxMeB_ok (cts := [ct108, ct57, ct2, ct58]) (cuts := cu109) (sp := []) 275 (by decide +kernel) hg (by decide) (by decide) (List.forall_mem_cons.mpr ⟨cv108 hg, (List.forall_mem_cons.mpr ⟨cv57 hg, (List.forall_mem_cons.mpr ⟨cv2 hg, (List.forall_mem_cons.mpr ⟨cv58 hg, (fun _ h => absurd h List.not_mem_nil)⟩)⟩)⟩)⟩)
/-- LotBeliefsLaw.question -/
def ct110 : sxCt := (331, 32, (3, [(1, .negSucc 2147483647, .ofNat 2147483647), (2, .ofNat 0, .ofNat 600)], [], [(0, .inl 0), (1, .inr (false, (1, .ofNat 0))), (2, .inl 578)], [], [(1, (0, .ofNat 1), .inr (false, (2, .ofNat 0)))], [], []), [(0, 2), (0, 7), (1, 2), (1, 3), (1, 4), (1, 5), (1, 6), (1, 7), (1, 8), (1, 9), (1, 10), (30, 0), (578, 0)], [
  (4, [(1, .negSucc 2147483647, .negSucc 0), (3, .negSucc 2147483647, .ofNat 2147483647)], [(1, 2, .ofNat 0)], [], [.inr (false, (0, .ofNat 1))], [(1, (0, .ofNat 1), .inr (false, (2, .ofNat 0))), (30, (0, .ofNat 1), .inr (false, (3, .ofNat 0)))], [], []), 
  (4, [(1, .ofNat 1, .ofNat 2147483647), (3, .negSucc 2147483647, .ofNat 2147483647)], [(2, 1, .negSucc 0)], [], [.inr (false, (0, .ofNat 1))], [(1, (0, .ofNat 1), .inr (false, (2, .ofNat 0))), (30, (0, .ofNat 1), .inr (false, (3, .ofNat 0)))], [], []), 
  (4, [(1, .ofNat 201, .ofNat 600), (2, .ofNat 201, .ofNat 600), (3, .negSucc 2147483647, .ofNat 2147483647)], [(1, 2, .ofNat 0)], [], [.inr (false, (0, .ofNat 1))], [(1, (0, .ofNat 1), .inr (false, (2, .ofNat 0))), (30, (0, .ofNat 1), .inr (false, (3, .ofNat 0)))], [], []), 
  (8, [(1, .ofNat 0, .ofNat 200), (3, .negSucc 0, .ofNat 600), (4, .ofNat 0, .ofNat 200), (5, .ofNat 0, .ofNat 4), (6, .ofNat 0, .ofNat 4), (7, .negSucc 8, .ofNat 127)], [(1, 4, .ofNat 0), (4, 1, .ofNat 0), (4, 2, .ofNat 0), (6, 7, .ofNat 10), (1, 2, .ofNat 0)], [], [.inr (false, (0, .ofNat 0))], [(0, (0, .ofNat 1), .inr (false, (3, .ofNat 0))), (1, (0, .ofNat 1), .inr (false, (0, .ofNat 0))), (1, (0, .ofNat 2), .inr (false, (4, .ofNat 0))), (1, (0, .ofNat 3), .inr (false, (5, .ofNat 0))), (1, (0, .ofNat 7), .inr (false, (0, .ofNat 0))), (1, (0, .ofNat 8), .inr (false, (6, .ofNat 0))), (1, (0, .ofNat 9), .inr (false, (3, .ofNat 0))), (578, (0, .ofNat 0), .inr (true, (7, .ofNat 0)))], [], [])], [], 1, 6)
def cu110 : List sxCu := []
set_option maxRecDepth 1000000 in
theorem cv110 {gh : sxGh} (hg : sxGd sxKw gh) : sxCtV sxKw gh ct110 := sxMeB_ok (cts := [ct109]) (cuts := cu110) (sp := []) 77 (by decide +kernel) hg (by decide) (by decide) (List.forall_mem_cons.mpr ⟨cv109 hg, (fun _ h => absurd h List.not_mem_nil)⟩)
/-- LotBeliefsModel.blanks -/
def ct111 : sxCt := (201, 1, (3, [(1, .ofNat 0, .ofNat 200), (2, .ofNat 0, .ofNat 200)], [], [(0, .inl 78)], [], [(78, (0, .ofNat 2), .inr (false, (1, .ofNat 0))), (78, (0, .ofNat 4), .inr (false, (2, .ofNat 0)))], [], []), [(78, 5), (579, 5)], [
  (4, [(3, .ofNat 0, .ofNat 200)], [(2, 3, .ofNat 0)], [], [], [(78, (0, .ofNat 2), .inr (false, (1, .ofNat 0))), (78, (0, .ofNat 4), .inr (false, (3, .ofNat 0)))], [], [])], [], 0, 0)
def cu111 : List sxCu := [
  (0, (4, [(1, .ofNat 1, .ofNat 200), (2, .ofNat 0, .ofNat 199), (3, .ofNat 1, .ofNat 200)], [(2, 3, .negSucc 0)], [(0, .inl 78)], [], [(78, (0, .ofNat 2), .inr (false, (1, .ofNat 0))), (78, (0, .ofNat 4), .inr (false, (3, .ofNat 0))), (78, (0, .ofNat 9), .inl 79)], [], []), ((0, 3, .ofNat 200), (0, 0, .ofNat 0), (0, 0, .ofNat 0)), 0, 0)]
set_option maxRecDepth 1000000 in
theorem cv111 {gh : sxGh} (hg : sxGd sxKw gh) : sxCtV sxKw gh ct111 := sxMeB_ok (cts := []) (cuts := cu111) (sp := []) 118 (by decide +kernel) hg (by decide) (by decide) (fun _ h => absurd h List.not_mem_nil)
/-- LotBeliefsModel.blanks -/
def ct112 : sxCt := (201, 1, (3, [(1, .ofNat 0, .ofNat 600), (2, .ofNat 0, .ofNat 600)], [], [(0, .inl 78)], [], [(78, (0, .ofNat 2), .inr (false, (1, .ofNat 0))), (78, (0, .ofNat 4), .inr (false, (2, .ofNat 0)))], [], []), [(78, 5), (579, 5)], [
  (4, [(3, .ofNat 0, .ofNat 600)], [(2, 3, .ofNat 0)], [], [], [(78, (0, .ofNat 2), .inr (false, (1, .ofNat 0))), (78, (0, .ofNat 4), .inr (false, (3, .ofNat 0)))], [], [])], [], 0, 0)
def cu112 : List sxCu := [
  (0, (4, [(1, .ofNat 1, .ofNat 600), (2, .ofNat 0, .ofNat 599), (3, .ofNat 1, .ofNat 600)], [(2, 3, .negSucc 0)], [(0, .inl 78)], [], [(78, (0, .ofNat 2), .inr (false, (1, .ofNat 0))), (78, (0, .ofNat 4), .inr (false, (3, .ofNat 0))), (78, (0, .ofNat 9), .inl 79)], [], []), ((0, 3, .ofNat 600), (0, 0, .ofNat 0), (0, 0, .ofNat 0)), 0, 0)]
set_option maxRecDepth 1000000 in
theorem cv112 {gh : sxGh} (hg : sxGd sxKw gh) : sxCtV sxKw gh ct112 := sxMeB_ok (cts := []) (cuts := cu112) (sp := []) 118 (by decide +kernel) hg (by decide) (by decide) (fun _ h => absurd h List.not_mem_nil)
/-- LotBeliefsModel.wordHere -/
def ct113 : sxCt := (206, 2, (3, [(1, .ofNat 0, .ofNat 600), (2, .ofNat 0, .ofNat 600)], [], [(0, .inl 78)], [], [(78, (0, .ofNat 2), .inr (false, (1, .ofNat 0))), (78, (0, .ofNat 4), .inr (false, (2, .ofNat 0)))], [], []), [(78, 5), (579, 5)], [
  (4, [(3, .ofNat 0, .ofNat 600)], [(2, 3, .ofNat 0)], [], [.inr (false, (0, .ofNat 0))], [(78, (0, .ofNat 2), .inr (false, (1, .ofNat 0))), (78, (0, .ofNat 4), .inr (false, (3, .ofNat 0)))], [], []), 
  (6, [(1, .ofNat 1, .ofNat 600), (2, .ofNat 0, .ofNat 599), (3, .ofNat 1, .ofNat 387420488), (4, .ofNat 0, .ofNat 599), (5, .ofNat 97, .ofNat 122)], [(2, 4, .ofNat 0), (4, 1, .negSucc 0), (5, 3, .ofNat 96)], [], [.inr (false, (3, .ofNat 0))], [(78, (0, .ofNat 2), .inr (false, (1, .ofNat 0))), (78, (0, .ofNat 4), .inr (false, (4, .ofNat 0))), (79, (4, .ofNat 0), .inr (false, (5, .ofNat 0)))], [], []), 
  (5, [(1, .ofNat 7, .ofNat 600), (2, .ofNat 0, .ofNat 593), (3, .ofNat 0, .ofNat 593), (4, .ofNat 97, .ofNat 122)], [(2, 3, .ofNat 0), (3, 1, .negSucc 6)], [], [.inr (false, (0, .negSucc 0))], [(78, (0, .ofNat 2), .inr (false, (1, .ofNat 0))), (78, (0, .ofNat 4), .inr (false, (3, .ofNat 0))), (79, (3, .ofNat 0), .inr (false, (4, .ofNat 0)))], [], [])], [], 0, 0)
def cu113 : List sxCu := [
  (53, (7, [(1, .ofNat 7, .ofNat 600), (2, .ofNat 0, .ofNat 593), (3, .ofNat 14900788, .ofNat 387420488), (4, .ofNat 6, .ofNat 600), (5, .ofNat 0, .ofNat 593), (6, .ofNat 97, .ofNat 122)], [(2, 5, .ofNat 0), (5, 1, .negSucc 6)], [(0, .inl 78), (1, .inr (false, (3, .ofNat 0))), (2, .inr (false, (4, .ofNat 0)))], [], [(78, (0, .ofNat 2), .inr (false, (1, .ofNat 0))), (78, (0, .ofNat 4), .inr (false, (5, .ofNat 0))), (78, (0, .ofNat 9), .inl 79), (79, (5, .ofNat 0), .inr (false, (6, .ofNat 0)))], [], []), ((0, 4, .ofNat 600), (0, 0, .ofNat 0), (0, 0, .ofNat 0)), 0, 0)]
set_option maxRecDepth 1000000 in
theorem cv113 {gh : sxGh} (hg : sxGd sxKw gh) : sxCtV sxKw gh ct113 := sxMeB_ok (cts := [ct112]) (cuts := cu113) (sp := []) 716 (by decide +kernel) hg (by decide) (by decide) (List.forall_mem_cons.mpr ⟨cv112 hg, (fun _ h => absurd h List.not_mem_nil)⟩)
/-- LotBeliefsModel.isWord -/
def ct114 : sxCt := (208, 3, (4, [(1, .ofNat 0, .ofNat 4), (2, .ofNat 0, .ofNat 600), (3, .ofNat 0, .ofNat 600)], [], [(0, .inl 78), (1, .inr (false, (0, .ofNat 14))), (2, .inr (false, (0, .ofNat 15))), (3, .inr (false, (0, .ofNat 20))), (4, .inr (false, (0, .ofNat 0))), (5, .inr (false, (0, .ofNat 0))), (6, .inr (false, (0, .ofNat 0)))], [], [(78, (0, .ofNat 5), .inr (false, (1, .ofNat 0))), (78, (0, .ofNat 2), .inr (false, (2, .ofNat 0))), (78, (0, .ofNat 4), .inr (false, (3, .ofNat 0)))], [], []), [(78, 5), (579, 5)], [
  (5, [(1, .ofNat 0, .ofNat 0), (4, .ofNat 0, .ofNat 600)], [(3, 4, .ofNat 0)], [], [.inr (false, (0, .ofNat 0))], [(78, (0, .ofNat 2), .inr (false, (2, .ofNat 0))), (78, (0, .ofNat 4), .inr (false, (4, .ofNat 0))), (78, (0, .ofNat 5), .inr (false, (1, .ofNat 0)))], [], []), 
  (6, [(1, .ofNat 0, .ofNat 0), (2, .ofNat 1, .ofNat 600), (3, .ofNat 0, .ofNat 599), (4, .ofNat 0, .ofNat 599), (5, .ofNat 97, .ofNat 122)], [(3, 4, .ofNat 0), (4, 2, .negSucc 0)], [], [.inr (false, (0, .ofNat 1))], [(78, (0, .ofNat 2), .inr (false, (2, .ofNat 0))), (78, (0, .ofNat 4), .inr (false, (4, .ofNat 0))), (78, (0, .ofNat 5), .inr (false, (1, .ofNat 0))), (79, (4, .ofNat 0), .inr (false, (5, .ofNat 0)))], [], []), 
  (4, [(1, .ofNat 1, .ofNat 4)], [], [], [.inr (false, (0, .ofNat 0))], [(78, (0, .ofNat 2), .inr (false, (2, .ofNat 0))), (78, (0, .ofNat 4), .inr (false, (3, .ofNat 0))), (78, (0, .ofNat 5), .inr (false, (1, .ofNat 0)))], [], [])], [], 0, 0)
def cu114 : List sxCu := []
set_option maxRecDepth 1000000 in
theorem cv114 {gh : sxGh} (hg : sxGd sxKw gh) : sxCtV sxKw gh ct114 := sxMeB_ok (cts := [ct113]) (cuts := cu114) (sp := []) 188 (by decide +kernel) hg (by decide) (by decide) (List.forall_mem_cons.mpr ⟨cv113 hg, (fun _ h => absurd h List.not_mem_nil)⟩)
/-- LotBeliefsModel.skipWord -/
def ct115 : sxCt := (209, 1, (4, [(1, .ofNat 0, .ofNat 600), (2, .ofNat 0, .ofNat 599), (3, .ofNat 97, .ofNat 122)], [(2, 1, .negSucc 0)], [(0, .inl 78)], [], [(78, (0, .ofNat 2), .inr (false, (1, .ofNat 0))), (78, (0, .ofNat 4), .inr (false, (2, .ofNat 0))), (79, (2, .ofNat 0), .inr (false, (3, .ofNat 0)))], [], []), [(78, 5), (579, 5)], [
  (5, [(4, .ofNat 1, .ofNat 600)], [(2, 4, .negSucc 0), (4, 1, .ofNat 0)], [], [], [(78, (0, .ofNat 2), .inr (false, (1, .ofNat 0))), (78, (0, .ofNat 4), .inr (false, (4, .ofNat 0)))], [], [])], [], 0, 0)
def cu115 : List sxCu := [
  (24, (5, [(1, .ofNat 0, .ofNat 600), (2, .ofNat 0, .ofNat 599), (3, .ofNat 97, .ofNat 122), (4, .ofNat 1, .ofNat 600)], [(2, 4, .negSucc 0), (4, 1, .ofNat 0), (2, 1, .negSucc 0)], [(0, .inl 78)], [], [(78, (0, .ofNat 2), .inr (false, (1, .ofNat 0))), (78, (0, .ofNat 4), .inr (false, (4, .ofNat 0))), (78, (0, .ofNat 9), .inl 79)], [], []), ((0, 4, .ofNat 600), (0, 0, .ofNat 0), (0, 0, .ofNat 0)), 0, 0)]
set_option maxRecDepth 1000000 in
theorem cv115 {gh : sxGh} (hg : sxGd sxKw gh) : sxCtV sxKw gh ct115 := sxMeB_ok (cts := []) (cuts := cu115) (sp := []) 140 (by decide +kernel) hg (by decide) (by decide) (fun _ h => absurd h List.not_mem_nil)
/-- LotBeliefsModel.isWord -/
def ct116 : sxCt := (208, 3, (4, [(1, .ofNat 0, .ofNat 4), (2, .ofNat 0, .ofNat 600), (3, .ofNat 0, .ofNat 600)], [], [(0, .inl 78), (1, .inr (false, (0, .ofNat 9))), (2, .inr (false, (0, .ofNat 6))), (3, .inr (false, (0, .ofNat 0))), (4, .inr (false, (0, .ofNat 0))), (5, .inr (false, (0, .ofNat 0))), (6, .inr (false, (0, .ofNat 0)))], [], [(78, (0, .ofNat 5), .inr (false, (1, .ofNat 0))), (78, (0, .ofNat 2), .inr (false, (2, .ofNat 0))), (78, (0, .ofNat 4), .inr (false, (3, .ofNat 0)))], [], []), [(78, 5), (579, 5)], [
  (5, [(1, .ofNat 0, .ofNat 0), (4, .ofNat 0, .ofNat 600)], [(3, 4, .ofNat 0)], [], [.inr (false, (0, .ofNat 0))], [(78, (0, .ofNat 2), .inr (false, (2, .ofNat 0))), (78, (0, .ofNat 4), .inr (false, (4, .ofNat 0))), (78, (0, .ofNat 5), .inr (false, (1, .ofNat 0)))], [], []), 
  (6, [(1, .ofNat 0, .ofNat 0), (2, .ofNat 1, .ofNat 600), (3, .ofNat 0, .ofNat 599), (4, .ofNat 0, .ofNat 599), (5, .ofNat 97, .ofNat 122)], [(3, 4, .ofNat 0), (4, 2, .negSucc 0)], [], [.inr (false, (0, .ofNat 1))], [(78, (0, .ofNat 2), .inr (false, (2, .ofNat 0))), (78, (0, .ofNat 4), .inr (false, (4, .ofNat 0))), (78, (0, .ofNat 5), .inr (false, (1, .ofNat 0))), (79, (4, .ofNat 0), .inr (false, (5, .ofNat 0)))], [], []), 
  (4, [(1, .ofNat 1, .ofNat 4)], [], [], [.inr (false, (0, .ofNat 0))], [(78, (0, .ofNat 2), .inr (false, (2, .ofNat 0))), (78, (0, .ofNat 4), .inr (false, (3, .ofNat 0))), (78, (0, .ofNat 5), .inr (false, (1, .ofNat 0)))], [], [])], [], 0, 0)
def cu116 : List sxCu := []
set_option maxRecDepth 1000000 in
theorem cv116 {gh : sxGh} (hg : sxGd sxKw gh) : sxCtV sxKw gh ct116 := sxMeB_ok (cts := [ct113]) (cuts := cu116) (sp := []) 179 (by decide +kernel) hg (by decide) (by decide) (List.forall_mem_cons.mpr ⟨cv113 hg, (fun _ h => absurd h List.not_mem_nil)⟩)
/-- LotBeliefsModel.wordHere -/
def ct117 : sxCt := (206, 2, (4, [(1, .ofNat 0, .ofNat 600), (2, .ofNat 0, .ofNat 600), (3, .ofNat 0, .ofNat 255)], [], [(0, .inl 78)], [], [(78, (0, .ofNat 2), .inr (false, (1, .ofNat 0))), (78, (0, .ofNat 4), .inr (false, (2, .ofNat 0))), (79, (2, .ofNat 0), .inr (false, (3, .ofNat 0)))], [], []), [(78, 5), (579, 5)], [
  (5, [(4, .ofNat 0, .ofNat 600)], [(2, 4, .ofNat 0)], [], [.inr (false, (0, .ofNat 0))], [(78, (0, .ofNat 2), .inr (false, (1, .ofNat 0))), (78, (0, .ofNat 4), .inr (false, (4, .ofNat 0)))], [], []), 
  (7, [(1, .ofNat 1, .ofNat 600), (2, .ofNat 0, .ofNat 599), (4, .ofNat 1, .ofNat 387420488), (5, .ofNat 0, .ofNat 599), (6, .ofNat 97, .ofNat 122)], [(2, 5, .ofNat 0), (5, 1, .negSucc 0), (6, 4, .ofNat 96)], [], [.inr (false, (4, .ofNat 0))], [(78, (0, .ofNat 2), .inr (false, (1, .ofNat 0))), (78, (0, .ofNat 4), .inr (false, (5, .ofNat 0))), (79, (5, .ofNat 0), .inr (false, (6, .ofNat 0)))], [], []), 
  (6, [(1, .ofNat 7, .ofNat 600), (2, .ofNat 0, .ofNat 593), (4, .ofNat 0, .ofNat 593), (5, .ofNat 97, .ofNat 122)], [(2, 4, .ofNat 0), (4, 1, .negSucc 6)], [], [.inr (false, (0, .negSucc 0))], [(78, (0, .ofNat 2), .inr (false, (1, .ofNat 0))), (78, (0, .ofNat 4), .inr (false, (4, .ofNat 0))), (79, (4, .ofNat 0), .inr (false, (5, .ofNat 0)))], [], [])], [], 0, 0)
def cu117 : List sxCu := [
  (53, (8, [(1, .ofNat 7, .ofNat 600), (2, .ofNat 0, .ofNat 593), (3, .ofNat 0, .ofNat 255), (4, .ofNat 14900788, .ofNat 387420488), (5, .ofNat 6, .ofNat 600), (6, .ofNat 0, .ofNat 593), (7, .ofNat 97, .ofNat 122)], [(2, 6, .ofNat 0), (6, 1, .negSucc 6)], [(0, .inl 78), (1, .inr (false, (4, .ofNat 0))), (2, .inr (false, (5, .ofNat 0)))], [], [(78, (0, .ofNat 2), .inr (false, (1, .ofNat 0))), (78, (0, .ofNat 4), .inr (false, (6, .ofNat 0))), (78, (0, .ofNat 9), .inl 79), (79, (6, .ofNat 0), .inr (false, (7, .ofNat 0)))], [], []), ((0, 5, .ofNat 600), (0, 0, .ofNat 0), (0, 0, .ofNat 0)), 0, 0)]
set_option maxRecDepth 1000000 in
theorem cv117 {gh : sxGh} (hg : sxGd sxKw gh) : sxCtV sxKw gh ct117 := sxMeB_ok (cts := [ct112]) (cuts := cu117) (sp := []) 716 (by decide +kernel) hg (by decide) (by decide) (List.forall_mem_cons.mpr ⟨cv112 hg, (fun _ h => absurd h List.not_mem_nil)⟩)
/-- LotBeliefsModel.isWord -/
def ct118 : sxCt := (208, 3, (5, [(1, .ofNat 0, .ofNat 4), (2, .ofNat 0, .ofNat 600), (3, .ofNat 0, .ofNat 600), (4, .ofNat 0, .ofNat 255)], [], [(0, .inl 78), (1, .inr (false, (0, .ofNat 9))), (2, .inr (false, (0, .ofNat 6))), (3, .inr (false, (0, .ofNat 0))), (4, .inr (false, (0, .ofNat 0))), (5, .inr (false, (0, .ofNat 0))), (6, .inr (false, (0, .ofNat 0)))], [], [(78, (0, .ofNat 5), .inr (false, (1, .ofNat 0))), (78, (0, .ofNat 2), .inr (false, (2, .ofNat 0))), (78, (0, .ofNat 4), .inr (false, (3, .ofNat 0))), (79, (3, .ofNat 0), .inr (false, (4, .ofNat 0)))], [], []), [(78, 5), (579, 5)], [
  (6, [(1, .ofNat 0, .ofNat 0), (5, .ofNat 0, .ofNat 600)], [(3, 5, .ofNat 0)], [], [.inr (false, (0, .ofNat 0))], [(78, (0, .ofNat 2), .inr (false, (2, .ofNat 0))), (78, (0, .ofNat 4), .inr (false, (5, .ofNat 0))), (78, (0, .ofNat 5), .inr (false, (1, .ofNat 0)))], [], []), 
  (7, [(1, .ofNat 0, .ofNat 0), (2, .ofNat 1, .ofNat 600), (3, .ofNat 0, .ofNat 599), (5, .ofNat 0, .ofNat 599), (6, .ofNat 97, .ofNat 122)], [(3, 5, .ofNat 0), (5, 2, .negSucc 0)], [], [.inr (false, (0, .ofNat 1))], [(78, (0, .ofNat 2), .inr (false, (2, .ofNat 0))), (78, (0, .ofNat 4), .inr (false, (5, .ofNat 0))), (78, (0, .ofNat 5), .inr (false, (1, .ofNat 0))), (79, (5, .ofNat 0), .inr (false, (6, .ofNat 0)))], [], []), 
  (5, [(1, .ofNat 1, .ofNat 4)], [], [], [.inr (false, (0, .ofNat 0))], [(78, (0, .ofNat 2), .inr (false, (2, .ofNat 0))), (78, (0, .ofNat 4), .inr (false, (3, .ofNat 0))), (78, (0, .ofNat 5), .inr (false, (1, .ofNat 0))), (79, (3, .ofNat 0), .inr (false, (4, .ofNat 0)))], [], [])], [], 0, 0)
def cu118 : List sxCu := []
set_option maxRecDepth 1000000 in
theorem cv118 {gh : sxGh} (hg : sxGd sxKw gh) : sxCtV sxKw gh ct118 := sxMeB_ok (cts := [ct117]) (cuts := cu118) (sp := []) 179 (by decide +kernel) hg (by decide) (by decide) (List.forall_mem_cons.mpr ⟨cv117 hg, (fun _ h => absurd h List.not_mem_nil)⟩)
/-- LotBeliefsModel.atomOf -/
def ct119 : sxCt := (216, 0, (2, [(1, .ofNat 0, .ofNat 5)], [], [(0, .inr (false, (1, .ofNat 0))), (1, .inr (false, (0, .ofNat 6)))], [], [], [], []), [], [
  (3, [(2, .negSucc 9223372036854775807, .ofNat 9223372036854775807)], [], [], [.inr (true, (2, .ofNat 0))], [], [], [])], [], 0, 0)
def cu119 : List sxCu := []
set_option maxRecDepth 1000000 in
theorem cv119 {gh : sxGh} (hg : sxGd sxKw gh) : sxCtV sxKw gh ct119 := sxMeB_ok (cts := []) (cuts := cu119) (sp := []) 1223 (by decide +kernel) hg (by decide) (by decide) (fun _ h => absurd h List.not_mem_nil)
/-- LotBeliefsModel.atomOf -/
def ct120 : sxCt := (216, 0, (3, [(1, .ofNat 0, .ofNat 4), (2, .ofNat 0, .ofNat 5)], [], [(0, .inr (false, (1, .ofNat 0))), (1, .inr (false, (2, .ofNat 0)))], [], [], [], []), [], [
  (4, [(3, .ofNat 0, .ofNat 4294967295)], [], [], [.inr (true, (3, .ofNat 0))], [], [], [])], [], 0, 0)
def cu120 : List sxCu := []
set_option maxRecDepth 1000000 in
theorem cv120 {gh : sxGh} (hg : sxGd sxKw gh) : sxCtV sxKw gh ct120 := sxMeB_ok (cts := []) (cuts := cu120) (sp := []) 709 (by decide +kernel) hg (by decide) (by decide) (fun _ h => absurd h List.not_mem_nil)
/-- LotBeliefsModel.oneOf -/
def ct121 : sxCt := (219, 4, (3, [(1, .ofNat 0, .ofNat 4), (2, .ofNat 0, .ofNat 600)], [], [(0, .inl 78)], [], [(78, (0, .ofNat 8), .inr (false, (0, .ofNat 6))), (78, (0, .ofNat 5), .inr (false, (1, .ofNat 0))), (78, (0, .ofNat 4), .inr (false, (2, .ofNat 0)))], [], []), [(78, 5), (78, 6), (78, 7), (579, 5)], [
  (5, [(3, .ofNat 0, .ofNat 600), (4, .ofNat 1, .ofNat 4)], [(1, 4, .ofNat 0), (2, 3, .ofNat 0), (4, 1, .ofNat 3)], [], [.inr (true, (0, .ofNat 0))], [(78, (0, .ofNat 4), .inr (false, (3, .ofNat 0))), (78, (0, .ofNat 5), .inr (false, (4, .ofNat 0))), (78, (0, .ofNat 8), .inr (false, (0, .ofNat 6)))], [], []), 
  (5, [(1, .ofNat 0, .ofNat 0), (2, .ofNat 0, .ofNat 599), (3, .negSucc 9223372036854775807, .ofNat 9223372036854775807), (4, .ofNat 1, .ofNat 600)], [(2, 4, .negSucc 0)], [], [.inr (true, (3, .ofNat 0))], [(78, (0, .ofNat 4), .inr (false, (4, .ofNat 0))), (78, (0, .ofNat 5), .inr (false, (0, .ofNat 0))), (78, (0, .ofNat 8), .inr (false, (0, .ofNat 6)))], [], [])], [], 0, 0)
def cu121 : List sxCu := []
set_option maxRecDepth 1000000 in
theorem cv121 {gh : sxGh} (hg : sxGd sxKw gh) : sxCtV sxKw gh ct121 := sxMeB_ok (cts := [ct112, ct114, ct116, ct118, ct119, ct120]) (cuts := cu121) (sp := []) 1119 (by decide +kernel) hg (by decide) (by decide) (List.forall_mem_cons.mpr ⟨cv112 hg, (List.forall_mem_cons.mpr ⟨cv114 hg, (List.forall_mem_cons.mpr ⟨cv116 hg, (List.forall_mem_cons.mpr ⟨cv118 hg, (List.forall_mem_cons.mpr ⟨cv119 hg, (List.forall_mem_cons.mpr ⟨cv120 hg, (fun _ h => absurd h List.not_mem_nil)⟩)⟩)⟩)⟩)⟩)⟩)
/-- LotBeliefsModel.isWord -/
def ct122 : sxCt := (208, 3, (4, [(1, .ofNat 0, .ofNat 4), (2, .ofNat 0, .ofNat 600), (3, .ofNat 0, .ofNat 600)], [], [(0, .inl 78), (1, .inr (false, (0, .ofNat 1))), (2, .inr (false, (0, .ofNat 14))), (3, .inr (false, (0, .ofNat 4))), (4, .inr (false, (0, .ofNat 0))), (5, .inr (false, (0, .ofNat 0))), (6, .inr (false, (0, .ofNat 0)))], [], [(78, (0, .ofNat 5), .inr (false, (1, .ofNat 0))), (78, (0, .ofNat 2), .inr (false, (2, .ofNat 0))), (78, (0, .ofNat 4), .inr (false, (3, .ofNat 0)))], [], []), [(78, 5), (579, 5)], [
  (5, [(1, .ofNat 0, .ofNat 0), (4, .ofNat 0, .ofNat 600)], [(3, 4, .ofNat 0)], [], [.inr (false, (0, .ofNat 0))], [(78, (0, .ofNat 2), .inr (false, (2, .ofNat 0))), (78, (0, .ofNat 4), .inr (false, (4, .ofNat 0))), (78, (0, .ofNat 5), .inr (false, (1, .ofNat 0)))], [], []), 
  (6, [(1, .ofNat 0, .ofNat 0), (2, .ofNat 1, .ofNat 600), (3, .ofNat 0, .ofNat 599), (4, .ofNat 0, .ofNat 599), (5, .ofNat 97, .ofNat 122)], [(3, 4, .ofNat 0), (4, 2, .negSucc 0)], [], [.inr (false, (0, .ofNat 1))], [(78, (0, .ofNat 2), .inr (false, (2, .ofNat 0))), (78, (0, .ofNat 4), .inr (false, (4, .ofNat 0))), (78, (0, .ofNat 5), .inr (false, (1, .ofNat 0))), (79, (4, .ofNat 0), .inr (false, (5, .ofNat 0)))], [], []), 
  (4, [(1, .ofNat 1, .ofNat 4)], [], [], [.inr (false, (0, .ofNat 0))], [(78, (0, .ofNat 2), .inr (false, (2, .ofNat 0))), (78, (0, .ofNat 4), .inr (false, (3, .ofNat 0))), (78, (0, .ofNat 5), .inr (false, (1, .ofNat 0)))], [], [])], [], 0, 0)
def cu122 : List sxCu := []
set_option maxRecDepth 1000000 in
theorem cv122 {gh : sxGh} (hg : sxGd sxKw gh) : sxCtV sxKw gh ct122 := sxMeB_ok (cts := [ct113]) (cuts := cu122) (sp := []) 188 (by decide +kernel) hg (by decide) (by decide) (List.forall_mem_cons.mpr ⟨cv113 hg, (fun _ h => absurd h List.not_mem_nil)⟩)
/-- LotBeliefsModel.takes -/
def ct123 : sxCt := (210, 4, (4, [(1, .ofNat 0, .ofNat 4), (2, .ofNat 0, .ofNat 600), (3, .ofNat 0, .ofNat 600)], [], [(0, .inl 78), (1, .inr (false, (0, .ofNat 1))), (2, .inr (false, (0, .ofNat 14))), (3, .inr (false, (0, .ofNat 4))), (4, .inr (false, (0, .ofNat 0))), (5, .inr (false, (0, .ofNat 0))), (6, .inr (false, (0, .ofNat 0)))], [], [(78, (0, .ofNat 5), .inr (false, (1, .ofNat 0))), (78, (0, .ofNat 2), .inr (false, (2, .ofNat 0))), (78, (0, .ofNat 4), .inr (false, (3, .ofNat 0)))], [], []), [(78, 5), (579, 5)], [
  (4, [(1, .ofNat 1, .ofNat 4)], [], [], [.inr (false, (0, .ofNat 0))], [(78, (0, .ofNat 2), .inr (false, (2, .ofNat 0))), (78, (0, .ofNat 4), .inr (false, (3, .ofNat 0))), (78, (0, .ofNat 5), .inr (false, (1, .ofNat 0)))], [], []), 
  (5, [(1, .ofNat 0, .ofNat 0), (2, .ofNat 1, .ofNat 600), (3, .ofNat 0, .ofNat 599), (4, .ofNat 1, .ofNat 600)], [(3, 4, .negSucc 0), (4, 2, .ofNat 0)], [], [.inr (false, (0, .ofNat 1))], [(78, (0, .ofNat 2), .inr (false, (2, .ofNat 0))), (78, (0, .ofNat 4), .inr (false, (4, .ofNat 0))), (78, (0, .ofNat 5), .inr (false, (1, .ofNat 0)))], [], []), 
  (5, [(1, .ofNat 0, .ofNat 0), (4, .ofNat 0, .ofNat 600)], [(3, 4, .ofNat 0)], [], [.inr (false, (0, .ofNat 0))], [(78, (0, .ofNat 2), .inr (false, (2, .ofNat 0))), (78, (0, .ofNat 4), .inr (false, (4, .ofNat 0))), (78, (0, .ofNat 5), .inr (false, (1, .ofNat 0)))], [], [])], [], 0, 0)
def cu123 : List sxCu := []
set_option maxRecDepth 1000000 in
theorem cv123 {gh : sxGh} (hg : sxGd sxKw gh) : sxCtV sxKw gh ct123 := sxMeB_ok (cts := [ct122, ct115]) (cuts := cu123) (sp := []) 87 (by decide +kernel) hg (by decide) (by decide) (List.forall_mem_cons.mpr ⟨cv122 hg, (List.forall_mem_cons.mpr ⟨cv115 hg, (fun _ h => absurd h List.not_mem_nil)⟩)⟩)
/-- LotBeliefsModel.eachOf -/
def ct124 : sxCt := (218, 5, (3, [(1, .ofNat 0, .ofNat 4), (2, .ofNat 0, .ofNat 600)], [], [(0, .inl 78)], [], [(78, (0, .ofNat 8), .inr (false, (0, .ofNat 6))), (78, (0, .ofNat 5), .inr (false, (1, .ofNat 0))), (78, (0, .ofNat 4), .inr (false, (2, .ofNat 0)))], [], []), [(78, 5), (78, 6), (78, 7), (579, 5)], [
  (5, [(1, .ofNat 0, .ofNat 0), (2, .ofNat 0, .ofNat 599), (3, .negSucc 9223372036854775807, .ofNat 9223372036854775807), (4, .ofNat 1, .ofNat 600)], [(2, 4, .negSucc 0)], [], [.inr (true, (3, .ofNat 0))], [(78, (0, .ofNat 4), .inr (false, (4, .ofNat 0))), (78, (0, .ofNat 5), .inr (false, (0, .ofNat 0))), (78, (0, .ofNat 8), .inr (false, (0, .ofNat 6)))], [], []), 
  (5, [(3, .ofNat 0, .ofNat 600), (4, .ofNat 1, .ofNat 4)], [(1, 4, .ofNat 0), (2, 3, .ofNat 0), (4, 1, .ofNat 3)], [], [.inr (true, (0, .ofNat 0))], [(78, (0, .ofNat 4), .inr (false, (3, .ofNat 0))), (78, (0, .ofNat 5), .inr (false, (4, .ofNat 0))), (78, (0, .ofNat 8), .inr (false, (0, .ofNat 6)))], [], [])], [], 0, 0)
def cu124 : List sxCu := [
  (5, (5, [(1, .ofNat 0, .ofNat 4), (2, .ofNat 0, .ofNat 600), (3, .ofNat 0, .ofNat 600), (4, .ofNat 1, .ofNat 4)], [(1, 4, .ofNat 0), (2, 3, .ofNat 0), (4, 1, .ofNat 3)], [(0, .inl 78), (1, .inr (true, (0, .ofNat 0)))], [], [(78, (0, .ofNat 4), .inr (false, (3, .ofNat 0))), (78, (0, .ofNat 5), .inr (false, (4, .ofNat 0))), (78, (0, .ofNat 8), .inr (false, (0, .ofNat 6)))], [], []), ((0, 3, .ofNat 600), (0, 0, .ofNat 0), (0, 0, .ofNat 0)), 0, 0), 
  (5, (5, [(1, .ofNat 0, .ofNat 0), (2, .ofNat 0, .ofNat 599), (3, .negSucc 9223372036854775807, .ofNat 9223372036854775807), (4, .ofNat 1, .ofNat 600)], [(2, 4, .negSucc 0)], [(0, .inl 78), (1, .inr (true, (3, .ofNat 0)))], [], [(78, (0, .ofNat 4), .inr (false, (4, .ofNat 0))), (78, (0, .ofNat 5), .inr (false, (0, .ofNat 0))), (78, (0, .ofNat 8), .inr (false, (0, .ofNat 6)))], [], []), ((0, 4, .ofNat 600), (0, 0, .ofNat 0), (0, 0, .ofNat 0)), 0, 0)]
set_option maxRecDepth 1000000 in
theorem cv124 {gh : sxGh} (hg : sxGd sxKw gh) : sxCtV sxKw gh ct124 := sxMeB_ok (cts := [ct123, ct121]) (cuts := cu124) (sp := []) 100 (by decide +kernel) hg (by decide) (by decide) (List.forall_mem_cons.mpr ⟨cv123 hg, (List.forall_mem_cons.mpr ⟨cv121 hg, (fun _ h => absurd h List.not_mem_nil)⟩)⟩)
/-- LotBeliefsModel.isWord -/
def ct125 : sxCt := (208, 3, (4, [(1, .ofNat 0, .ofNat 4), (2, .ofNat 0, .ofNat 600), (3, .ofNat 0, .ofNat 600)], [], [(0, .inl 78), (1, .inr (false, (0, .ofNat 15))), (2, .inr (false, (0, .ofNat 18))), (3, .inr (false, (0, .ofNat 0))), (4, .inr (false, (0, .ofNat 0))), (5, .inr (false, (0, .ofNat 0))), (6, .inr (false, (0, .ofNat 0)))], [], [(78, (0, .ofNat 5), .inr (false, (1, .ofNat 0))), (78, (0, .ofNat 2), .inr (false, (2, .ofNat 0))), (78, (0, .ofNat 4), .inr (false, (3, .ofNat 0)))], [], []), [(78, 5), (579, 5)], [
  (5, [(1, .ofNat 0, .ofNat 0), (4, .ofNat 0, .ofNat 600)], [(3, 4, .ofNat 0)], [], [.inr (false, (0, .ofNat 0))], [(78, (0, .ofNat 2), .inr (false, (2, .ofNat 0))), (78, (0, .ofNat 4), .inr (false, (4, .ofNat 0))), (78, (0, .ofNat 5), .inr (false, (1, .ofNat 0)))], [], []), 
  (6, [(1, .ofNat 0, .ofNat 0), (2, .ofNat 1, .ofNat 600), (3, .ofNat 0, .ofNat 599), (4, .ofNat 0, .ofNat 599), (5, .ofNat 97, .ofNat 122)], [(3, 4, .ofNat 0), (4, 2, .negSucc 0)], [], [.inr (false, (0, .ofNat 1))], [(78, (0, .ofNat 2), .inr (false, (2, .ofNat 0))), (78, (0, .ofNat 4), .inr (false, (4, .ofNat 0))), (78, (0, .ofNat 5), .inr (false, (1, .ofNat 0))), (79, (4, .ofNat 0), .inr (false, (5, .ofNat 0)))], [], []), 
  (4, [(1, .ofNat 1, .ofNat 4)], [], [], [.inr (false, (0, .ofNat 0))], [(78, (0, .ofNat 2), .inr (false, (2, .ofNat 0))), (78, (0, .ofNat 4), .inr (false, (3, .ofNat 0))), (78, (0, .ofNat 5), .inr (false, (1, .ofNat 0)))], [], [])], [], 0, 0)
def cu125 : List sxCu := []
set_option maxRecDepth 1000000 in
theorem cv125 {gh : sxGh} (hg : sxGd sxKw gh) : sxCtV sxKw gh ct125 := sxMeB_ok (cts := [ct113]) (cuts := cu125) (sp := []) 179 (by decide +kernel) hg (by decide) (by decide) (List.forall_mem_cons.mpr ⟨cv113 hg, (fun _ h => absurd h List.not_mem_nil)⟩)
/-- LotBeliefsModel.takes -/
def ct126 : sxCt := (210, 4, (4, [(1, .ofNat 0, .ofNat 4), (2, .ofNat 0, .ofNat 600), (3, .ofNat 0, .ofNat 600)], [], [(0, .inl 78), (1, .inr (false, (0, .ofNat 15))), (2, .inr (false, (0, .ofNat 18))), (3, .inr (false, (0, .ofNat 0))), (4, .inr (false, (0, .ofNat 0))), (5, .inr (false, (0, .ofNat 0))), (6, .inr (false, (0, .ofNat 0)))], [], [(78, (0, .ofNat 5), .inr (false, (1, .ofNat 0))), (78, (0, .ofNat 2), .inr (false, (2, .ofNat 0))), (78, (0, .ofNat 4), .inr (false, (3, .ofNat 0)))], [], []), [(78, 5), (579, 5)], [
  (4, [(1, .ofNat 1, .ofNat 4)], [], [], [.inr (false, (0, .ofNat 0))], [(78, (0, .ofNat 2), .inr (false, (2, .ofNat 0))), (78, (0, .ofNat 4), .inr (false, (3, .ofNat 0))), (78, (0, .ofNat 5), .inr (false, (1, .ofNat 0)))], [], []), 
  (5, [(1, .ofNat 0, .ofNat 0), (2, .ofNat 1, .ofNat 600), (3, .ofNat 0, .ofNat 599), (4, .ofNat 1, .ofNat 600)], [(3, 4, .negSucc 0), (4, 2, .ofNat 0)], [], [.inr (false, (0, .ofNat 1))], [(78, (0, .ofNat 2), .inr (false, (2, .ofNat 0))), (78, (0, .ofNat 4), .inr (false, (4, .ofNat 0))), (78, (0, .ofNat 5), .inr (false, (1, .ofNat 0)))], [], []), 
  (5, [(1, .ofNat 0, .ofNat 0), (4, .ofNat 0, .ofNat 600)], [(3, 4, .ofNat 0)], [], [.inr (false, (0, .ofNat 0))], [(78, (0, .ofNat 2), .inr (false, (2, .ofNat 0))), (78, (0, .ofNat 4), .inr (false, (4, .ofNat 0))), (78, (0, .ofNat 5), .inr (false, (1, .ofNat 0)))], [], [])], [], 0, 0)
def cu126 : List sxCu := []
set_option maxRecDepth 1000000 in
theorem cv126 {gh : sxGh} (hg : sxGd sxKw gh) : sxCtV sxKw gh ct126 := sxMeB_ok (cts := [ct125, ct115]) (cuts := cu126) (sp := []) 87 (by decide +kernel) hg (by decide) (by decide) (List.forall_mem_cons.mpr ⟨cv125 hg, (List.forall_mem_cons.mpr ⟨cv115 hg, (fun _ h => absurd h List.not_mem_nil)⟩)⟩)
/-- LotBeliefsModel.anyOf -/
def ct127 : sxCt := (217, 6, (3, [(1, .ofNat 0, .ofNat 4), (2, .ofNat 0, .ofNat 600)], [], [(0, .inl 78)], [], [(78, (0, .ofNat 8), .inr (false, (0, .ofNat 6))), (78, (0, .ofNat 5), .inr (false, (1, .ofNat 0))), (78, (0, .ofNat 4), .inr (false, (2, .ofNat 0)))], [], []), [(78, 5), (78, 6), (78, 7), (579, 5)], [
  (6, [(3, .negSucc 9223372036854775807, .ofNat 9223372036854775807), (4, .ofNat 0, .ofNat 600), (5, .ofNat 1, .ofNat 4)], [(1, 5, .ofNat 0), (2, 4, .ofNat 0), (5, 1, .ofNat 3)], [], [.inr (true, (3, .ofNat 0))], [(78, (0, .ofNat 4), .inr (false, (4, .ofNat 0))), (78, (0, .ofNat 5), .inr (false, (5, .ofNat 0))), (78, (0, .ofNat 8), .inr (false, (0, .ofNat 6)))], [], []), 
  (5, [(1, .ofNat 0, .ofNat 0), (2, .ofNat 0, .ofNat 599), (3, .negSucc 9223372036854775807, .ofNat 9223372036854775807), (4, .ofNat 1, .ofNat 600)], [(2, 4, .negSucc 0)], [], [.inr (true, (3, .ofNat 0))], [(78, (0, .ofNat 4), .inr (false, (4, .ofNat 0))), (78, (0, .ofNat 5), .inr (false, (0, .ofNat 0))), (78, (0, .ofNat 8), .inr (false, (0, .ofNat 6)))], [], [])], [], 0, 0)
def cu127 : List sxCu := [
  (5, (6, [(1, .ofNat 0, .ofNat 4), (2, .ofNat 0, .ofNat 600), (3, .negSucc 9223372036854775807, .ofNat 9223372036854775807), (4, .ofNat 0, .ofNat 600), (5, .ofNat 1, .ofNat 4)], [(1, 5, .ofNat 0), (2, 4, .ofNat 0), (5, 1, .ofNat 3)], [(0, .inl 78), (1, .inr (true, (3, .ofNat 0)))], [], [(78, (0, .ofNat 4), .inr (false, (4, .ofNat 0))), (78, (0, .ofNat 5), .inr (false, (5, .ofNat 0))), (78, (0, .ofNat 8), .inr (false, (0, .ofNat 6)))], [], []), ((0, 4, .ofNat 600), (0, 0, .ofNat 0), (0, 0, .ofNat 0)), 0, 0), 
  (5, (5, [(1, .ofNat 0, .ofNat 0), (2, .ofNat 0, .ofNat 599), (3, .negSucc 9223372036854775807, .ofNat 9223372036854775807), (4, .ofNat 1, .ofNat 600)], [(2, 4, .negSucc 0)], [(0, .inl 78), (1, .inr (true, (3, .ofNat 0)))], [], [(78, (0, .ofNat 4), .inr (false, (4, .ofNat 0))), (78, (0, .ofNat 5), .inr (false, (0, .ofNat 0))), (78, (0, .ofNat 8), .inr (false, (0, .ofNat 6)))], [], []), ((0, 4, .ofNat 600), (0, 0, .ofNat 0), (0, 0, .ofNat 0)), 0, 0)]
set_option maxRecDepth 1000000 in
theorem cv127 {gh : sxGh} (hg : sxGd sxKw gh) : sxCtV sxKw gh ct127 := sxMeB_ok (cts := [ct126, ct124]) (cuts := cu127) (sp := []) 100 (by decide +kernel) hg (by decide) (by decide) (List.forall_mem_cons.mpr ⟨cv126 hg, (List.forall_mem_cons.mpr ⟨cv124 hg, (fun _ h => absurd h List.not_mem_nil)⟩)⟩)
/-- LotBeliefsModel.isWord -/
def ct128 : sxCt := (208, 3, (4, [(1, .ofNat 0, .ofNat 4), (2, .ofNat 0, .ofNat 600), (3, .ofNat 0, .ofNat 600)], [], [(0, .inl 78), (1, .inr (false, (0, .ofNat 20))), (2, .inr (false, (0, .ofNat 8))), (3, .inr (false, (0, .ofNat 5))), (4, .inr (false, (0, .ofNat 14))), (5, .inr (false, (0, .ofNat 0))), (6, .inr (false, (0, .ofNat 0)))], [], [(78, (0, .ofNat 5), .inr (false, (1, .ofNat 0))), (78, (0, .ofNat 2), .inr (false, (2, .ofNat 0))), (78, (0, .ofNat 4), .inr (false, (3, .ofNat 0)))], [], []), [(78, 5), (579, 5)], [
  (5, [(1, .ofNat 0, .ofNat 0), (4, .ofNat 0, .ofNat 600)], [(3, 4, .ofNat 0)], [], [.inr (false, (0, .ofNat 0))], [(78, (0, .ofNat 2), .inr (false, (2, .ofNat 0))), (78, (0, .ofNat 4), .inr (false, (4, .ofNat 0))), (78, (0, .ofNat 5), .inr (false, (1, .ofNat 0)))], [], []), 
  (6, [(1, .ofNat 0, .ofNat 0), (2, .ofNat 1, .ofNat 600), (3, .ofNat 0, .ofNat 599), (4, .ofNat 0, .ofNat 599), (5, .ofNat 97, .ofNat 122)], [(3, 4, .ofNat 0), (4, 2, .negSucc 0)], [], [.inr (false, (0, .ofNat 1))], [(78, (0, .ofNat 2), .inr (false, (2, .ofNat 0))), (78, (0, .ofNat 4), .inr (false, (4, .ofNat 0))), (78, (0, .ofNat 5), .inr (false, (1, .ofNat 0))), (79, (4, .ofNat 0), .inr (false, (5, .ofNat 0)))], [], []), 
  (4, [(1, .ofNat 1, .ofNat 4)], [], [], [.inr (false, (0, .ofNat 0))], [(78, (0, .ofNat 2), .inr (false, (2, .ofNat 0))), (78, (0, .ofNat 4), .inr (false, (3, .ofNat 0))), (78, (0, .ofNat 5), .inr (false, (1, .ofNat 0)))], [], [])], [], 0, 0)
def cu128 : List sxCu := []
set_option maxRecDepth 1000000 in
theorem cv128 {gh : sxGh} (hg : sxGd sxKw gh) : sxCtV sxKw gh ct128 := sxMeB_ok (cts := [ct113]) (cuts := cu128) (sp := []) 197 (by decide +kernel) hg (by decide) (by decide) (List.forall_mem_cons.mpr ⟨cv113 hg, (fun _ h => absurd h List.not_mem_nil)⟩)
/-- LotBeliefsModel.takes -/
def ct129 : sxCt := (210, 4, (4, [(1, .ofNat 0, .ofNat 4), (2, .ofNat 0, .ofNat 600), (3, .ofNat 0, .ofNat 600)], [], [(0, .inl 78), (1, .inr (false, (0, .ofNat 20))), (2, .inr (false, (0, .ofNat 8))), (3, .inr (false, (0, .ofNat 5))), (4, .inr (false, (0, .ofNat 14))), (5, .inr (false, (0, .ofNat 0))), (6, .inr (false, (0, .ofNat 0)))], [], [(78, (0, .ofNat 5), .inr (false, (1, .ofNat 0))), (78, (0, .ofNat 2), .inr (false, (2, .ofNat 0))), (78, (0, .ofNat 4), .inr (false, (3, .ofNat 0)))], [], []), [(78, 5), (579, 5)], [
  (4, [(1, .ofNat 1, .ofNat 4)], [], [], [.inr (false, (0, .ofNat 0))], [(78, (0, .ofNat 2), .inr (false, (2, .ofNat 0))), (78, (0, .ofNat 4), .inr (false, (3, .ofNat 0))), (78, (0, .ofNat 5), .inr (false, (1, .ofNat 0)))], [], []), 
  (5, [(1, .ofNat 0, .ofNat 0), (2, .ofNat 1, .ofNat 600), (3, .ofNat 0, .ofNat 599), (4, .ofNat 1, .ofNat 600)], [(3, 4, .negSucc 0), (4, 2, .ofNat 0)], [], [.inr (false, (0, .ofNat 1))], [(78, (0, .ofNat 2), .inr (false, (2, .ofNat 0))), (78, (0, .ofNat 4), .inr (false, (4, .ofNat 0))), (78, (0, .ofNat 5), .inr (false, (1, .ofNat 0)))], [], []), 
  (5, [(1, .ofNat 0, .ofNat 0), (4, .ofNat 0, .ofNat 600)], [(3, 4, .ofNat 0)], [], [.inr (false, (0, .ofNat 0))], [(78, (0, .ofNat 2), .inr (false, (2, .ofNat 0))), (78, (0, .ofNat 4), .inr (false, (4, .ofNat 0))), (78, (0, .ofNat 5), .inr (false, (1, .ofNat 0)))], [], [])], [], 0, 0)
def cu129 : List sxCu := []
set_option maxRecDepth 1000000 in
theorem cv129 {gh : sxGh} (hg : sxGd sxKw gh) : sxCtV sxKw gh ct129 := sxMeB_ok (cts := [ct128, ct115]) (cuts := cu129) (sp := []) 87 (by decide +kernel) hg (by decide) (by decide) (List.forall_mem_cons.mpr ⟨cv128 hg, (List.forall_mem_cons.mpr ⟨cv115 hg, (fun _ h => absurd h List.not_mem_nil)⟩)⟩)
/-- LotBeliefsModel.oneOf -/
def ct130 : sxCt := (219, 7, (3, [(1, .ofNat 0, .ofNat 4), (2, .ofNat 0, .ofNat 600)], [], [(0, .inl 78)], [], [(78, (0, .ofNat 8), .inr (false, (0, .ofNat 5))), (78, (0, .ofNat 5), .inr (false, (1, .ofNat 0))), (78, (0, .ofNat 4), .inr (false, (2, .ofNat 0)))], [], []), [(78, 5), (78, 6), (78, 7), (78, 9), (579, 5)], [
  (6, [(3, .negSucc 9223372036854775807, .ofNat 9223372036854775807), (4, .ofNat 0, .ofNat 600), (5, .ofNat 1, .ofNat 4)], [(1, 5, .ofNat 0), (2, 4, .ofNat 0)], [], [.inr (true, (3, .ofNat 0))], [(78, (0, .ofNat 4), .inr (false, (4, .ofNat 0))), (78, (0, .ofNat 5), .inr (false, (5, .ofNat 0))), (78, (0, .ofNat 8), .inr (false, (0, .ofNat 5)))], [], []), 
  (5, [(1, .ofNat 0, .ofNat 0), (2, .ofNat 0, .ofNat 599), (3, .negSucc 9223372036854775807, .ofNat 9223372036854775807), (4, .ofNat 1, .ofNat 600)], [(2, 4, .negSucc 0)], [], [.inr (true, (3, .ofNat 0))], [(78, (0, .ofNat 4), .inr (false, (4, .ofNat 0))), (78, (0, .ofNat 5), .inr (false, (0, .ofNat 0))), (78, (0, .ofNat 8), .inr (false, (0, .ofNat 5)))], [], [])], [], 0, 0)
def cu130 : List sxCu := []
set_option maxRecDepth 1000000 in
theorem cv130 {gh : sxGh} (hg : sxGd sxKw gh) : sxCtV sxKw gh ct130 := sxMeB_ok (cts := [ct112, ct114, ct116, ct118, ct115, ct129, ct119, ct120, ct127, ct121]) (cuts := cu130) (sp := []) 1605 (by decide +kernel) hg (by decide) (by decide) (List.forall_mem_cons.mpr ⟨cv112 hg, (List.forall_mem_cons.mpr ⟨cv114 hg, (List.forall_mem_cons.mpr ⟨cv116 hg, (List.forall_mem_cons.mpr ⟨cv118 hg, (List.forall_mem_cons.mpr ⟨cv115 hg, (List.forall_mem_cons.mpr ⟨cv129 hg, (List.forall_mem_cons.mpr ⟨cv119 hg, (List.forall_mem_cons.mpr ⟨cv120 hg, (List.forall_mem_cons.mpr ⟨cv127 hg, (List.forall_mem_cons.mpr ⟨cv121 hg, (fun _ h => absurd h List.not_mem_nil)⟩)⟩)⟩)⟩)⟩)⟩)⟩)⟩)⟩)⟩)
/-- LotBeliefsModel.eachOf -/
def ct131 : sxCt := (218, 8, (3, [(1, .ofNat 0, .ofNat 4), (2, .ofNat 0, .ofNat 600)], [], [(0, .inl 78)], [], [(78, (0, .ofNat 8), .inr (false, (0, .ofNat 5))), (78, (0, .ofNat 5), .inr (false, (1, .ofNat 0))), (78, (0, .ofNat 4), .inr (false, (2, .ofNat 0)))], [], []), [(78, 5), (78, 6), (78, 7), (78, 9), (579, 5)], [
  (5, [(1, .ofNat 0, .ofNat 0), (2, .ofNat 0, .ofNat 599), (3, .negSucc 9223372036854775807, .ofNat 9223372036854775807), (4, .ofNat 1, .ofNat 600)], [(2, 4, .negSucc 0)], [], [.inr (true, (3, .ofNat 0))], [(78, (0, .ofNat 4), .inr (false, (4, .ofNat 0))), (78, (0, .ofNat 5), .inr (false, (0, .ofNat 0))), (78, (0, .ofNat 8), .inr (false, (0, .ofNat 5)))], [], []), 
  (6, [(3, .negSucc 9223372036854775807, .ofNat 9223372036854775807), (4, .ofNat 0, .ofNat 600), (5, .ofNat 1, .ofNat 4)], [(1, 5, .ofNat 0), (2, 4, .ofNat 0)], [], [.inr (true, (3, .ofNat 0))], [(78, (0, .ofNat 4), .inr (false, (4, .ofNat 0))), (78, (0, .ofNat 5), .inr (false, (5, .ofNat 0))), (78, (0, .ofNat 8), .inr (false, (0, .ofNat 5)))], [], [])], [], 0, 0)
def cu131 : List sxCu := [
  (5, (6, [(1, .ofNat 0, .ofNat 4), (2, .ofNat 0, .ofNat 600), (3, .negSucc 9223372036854775807, .ofNat 9223372036854775807), (4, .ofNat 0, .ofNat 600), (5, .ofNat 1, .ofNat 4)], [(1, 5, .ofNat 0), (2, 4, .ofNat 0)], [(0, .inl 78), (1, .inr (true, (3, .ofNat 0)))], [], [(78, (0, .ofNat 4), .inr (false, (4, .ofNat 0))), (78, (0, .ofNat 5), .inr (false, (5, .ofNat 0))), (78, (0, .ofNat 8), .inr (false, (0, .ofNat 5)))], [], []), ((0, 4, .ofNat 600), (0, 0, .ofNat 0), (0, 0, .ofNat 0)), 0, 0), 
  (5, (5, [(1, .ofNat 0, .ofNat 0), (2, .ofNat 0, .ofNat 599), (3, .negSucc 9223372036854775807, .ofNat 9223372036854775807), (4, .ofNat 1, .ofNat 600)], [(2, 4, .negSucc 0)], [(0, .inl 78), (1, .inr (true, (3, .ofNat 0)))], [], [(78, (0, .ofNat 4), .inr (false, (4, .ofNat 0))), (78, (0, .ofNat 5), .inr (false, (0, .ofNat 0))), (78, (0, .ofNat 8), .inr (false, (0, .ofNat 5)))], [], []), ((0, 4, .ofNat 600), (0, 0, .ofNat 0), (0, 0, .ofNat 0)), 0, 0)]
set_option maxRecDepth 1000000 in
theorem cv131 {gh : sxGh} (hg : sxGd sxKw gh) : sxCtV sxKw gh ct131 := sxMeB_ok (cts := [ct123, ct130]) (cuts := cu131) (sp := []) 100 (by decide +kernel) hg (by decide) (by decide) (List.forall_mem_cons.mpr ⟨cv123 hg, (List.forall_mem_cons.mpr ⟨cv130 hg, (fun _ h => absurd h List.not_mem_nil)⟩)⟩)
/-- LotBeliefsModel.anyOf -/
def ct132 : sxCt := (217, 9, (3, [(1, .ofNat 0, .ofNat 4), (2, .ofNat 0, .ofNat 600)], [], [(0, .inl 78)], [], [(78, (0, .ofNat 8), .inr (false, (0, .ofNat 5))), (78, (0, .ofNat 5), .inr (false, (1, .ofNat 0))), (78, (0, .ofNat 4), .inr (false, (2, .ofNat 0)))], [], []), [(78, 5), (78, 6), (78, 7), (78, 9), (579, 5)], [
  (6, [(3, .negSucc 9223372036854775807, .ofNat 9223372036854775807), (4, .ofNat 0, .ofNat 600), (5, .ofNat 1, .ofNat 4)], [(1, 5, .ofNat 0), (2, 4, .ofNat 0)], [], [.inr (true, (3, .ofNat 0))], [(78, (0, .ofNat 4), .inr (false, (4, .ofNat 0))), (78, (0, .ofNat 5), .inr (false, (5, .ofNat 0))), (78, (0, .ofNat 8), .inr (false, (0, .ofNat 5)))], [], []), 
  (5, [(1, .ofNat 0, .ofNat 0), (2, .ofNat 0, .ofNat 599), (3, .negSucc 9223372036854775807, .ofNat 9223372036854775807), (4, .ofNat 1, .ofNat 600)], [(2, 4, .negSucc 0)], [], [.inr (true, (3, .ofNat 0))], [(78, (0, .ofNat 4), .inr (false, (4, .ofNat 0))), (78, (0, .ofNat 5), .inr (false, (0, .ofNat 0))), (78, (0, .ofNat 8), .inr (false, (0, .ofNat 5)))], [], [])], [], 0, 0)
def cu132 : List sxCu := [
  (5, (6, [(1, .ofNat 0, .ofNat 4), (2, .ofNat 0, .ofNat 600), (3, .negSucc 9223372036854775807, .ofNat 9223372036854775807), (4, .ofNat 0, .ofNat 600), (5, .ofNat 1, .ofNat 4)], [(1, 5, .ofNat 0), (2, 4, .ofNat 0)], [(0, .inl 78), (1, .inr (true, (3, .ofNat 0)))], [], [(78, (0, .ofNat 4), .inr (false, (4, .ofNat 0))), (78, (0, .ofNat 5), .inr (false, (5, .ofNat 0))), (78, (0, .ofNat 8), .inr (false, (0, .ofNat 5)))], [], []), ((0, 4, .ofNat 600), (0, 0, .ofNat 0), (0, 0, .ofNat 0)), 0, 0), 
  (5, (5, [(1, .ofNat 0, .ofNat 0), (2, .ofNat 0, .ofNat 599), (3, .negSucc 9223372036854775807, .ofNat 9223372036854775807), (4, .ofNat 1, .ofNat 600)], [(2, 4, .negSucc 0)], [(0, .inl 78), (1, .inr (true, (3, .ofNat 0)))], [], [(78, (0, .ofNat 4), .inr (false, (4, .ofNat 0))), (78, (0, .ofNat 5), .inr (false, (0, .ofNat 0))), (78, (0, .ofNat 8), .inr (false, (0, .ofNat 5)))], [], []), ((0, 4, .ofNat 600), (0, 0, .ofNat 0), (0, 0, .ofNat 0)), 0, 0)]
set_option maxRecDepth 1000000 in
theorem cv132 {gh : sxGh} (hg : sxGd sxKw gh) : sxCtV sxKw gh ct132 := sxMeB_ok (cts := [ct126, ct131]) (cuts := cu132) (sp := []) 100 (by decide +kernel) hg (by decide) (by decide) (List.forall_mem_cons.mpr ⟨cv126 hg, (List.forall_mem_cons.mpr ⟨cv131 hg, (fun _ h => absurd h List.not_mem_nil)⟩)⟩)
end SXC
