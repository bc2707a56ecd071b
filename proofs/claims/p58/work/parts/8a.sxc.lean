/-! SX: contracts, by program -/
section SXC
/-- LotBeliefsModel.ones -/
def ct0 : sxCt := (224, 0, (2, [(1, .negSucc 9223372036854775807, .ofNat 9223372036854775807)], [], [(0, .inr (true, (1, .ofNat 0)))], [], [], [], []), [], [
  (3, [(2, .negSucc 2147483647, .ofNat 2147483647)], [], [], [.inr (false, (2, .ofNat 0))], [], [], [])], [], 0, 0)
def cu0 : List sxCu := [
  (4, (4, [(1, .negSucc 9223372036854775807, .ofNat 9223372036854775807), (2, .negSucc 2147483647, .ofNat 2147483647), (3, .ofNat 0, .ofNat 64)], [], [(0, .inr (true, (1, .ofNat 0))), (2, .inr (false, (2, .ofNat 0))), (3, .inr (false, (3, .ofNat 0)))], [], [], [], []), ((0, 3, .ofNat 64), (0, 0, .ofNat 0), (0, 0, .ofNat 0)), 0, 0)]
set_option maxRecDepth 1000000 in
theorem cv0 {gh : sxGh} (hg : sxGd sxKw gh) : sxCtV sxKw gh ct0 := sxMeB_ok (cts := []) (cuts := cu0) (sp := []) 80 (by decide +kernel) hg (by decide) (by decide) (fun _ h => absurd h List.not_mem_nil)
/-- LotBeliefsModel.valueOf -/
def ct1 : sxCt := (236, 1, (2, [(1, .ofNat 0, .ofNat 999)], [], [(0, .inl 78), (1, .inr (false, (1, .ofNat 0)))], [], [], [], []), [], [
  (3, [(2, .negSucc 2147483647, .ofNat 2147483647)], [], [], [.inr (false, (2, .ofNat 0))], [], [], [])], [], 0, 0)
def cu1 : List sxCu := []
set_option maxRecDepth 1000000 in
theorem cv1 {gh : sxGh} (hg : sxGd sxKw gh) : sxCtV sxKw gh ct1 := sxMeB_ok (cts := [ct0]) (cuts := cu1) (sp := []) 140 (by decide +kernel) hg (by decide) (by decide) (List.forall_mem_cons.mpr ⟨cv0 hg, (fun _ h => absurd h List.not_mem_nil)⟩)
/-- LotBeliefs.Tape.step -/
def ct2 : sxCt := (83, 0, (1, [], [], [(0, .inl 1)], [], [], [], []), [(1, 4), (1, 5), (1, 6), (1, 7)], [
  (2, [(1, .ofNat 0, .ofNat 4)], [], [], [], [(1, (0, .ofNat 3), .inr (false, (1, .ofNat 0)))], [], [])], [], 0, 0)
def cu2 : List sxCu := [
  (109, (6, [(1, .ofNat 0, .ofNat 600), (2, .ofNat 1, .ofNat 600), (3, .ofNat 0, .ofNat 599), (4, .ofNat 0, .ofNat 599), (5, .ofNat 97, .ofNat 122)], [(3, 1, .ofNat 0), (3, 2, .negSucc 0), (4, 1, .ofNat 0), (4, 2, .negSucc 0), (4, 3, .ofNat 0)], [(0, .inl 1), (1, .inr (false, (1, .ofNat 0)))], [], [(1, (0, .ofNat 0), .inl 2), (1, (0, .ofNat 2), .inr (false, (2, .ofNat 0))), (1, (0, .ofNat 3), .inr (false, (0, .ofNat 1))), (1, (0, .ofNat 4), .inr (false, (3, .ofNat 0))), (1, (0, .ofNat 5), .inr (false, (4, .ofNat 0))), (1, (0, .ofNat 6), .inr (false, (5, .ofNat 0)))], [], []), ((0, 1, .ofNat 1201), (0, 0, .ofNat 0), (0, 0, .ofNat 0)), 0, 0), 
  (14, (4, [(1, .ofNat 0, .ofNat 600), (2, .ofNat 0, .ofNat 3), (3, .ofNat 0, .ofNat 600)], [(3, 1, .ofNat 0)], [(0, .inl 1), (1, .inr (false, (1, .ofNat 0)))], [], [(1, (0, .ofNat 3), .inr (false, (2, .ofNat 0))), (1, (0, .ofNat 5), .inr (false, (3, .ofNat 0)))], [], []), ((0, 1, .ofNat 1802), (0, 0, .ofNat 0), (0, 0, .ofNat 0)), 0, 0), 
  (173, (6, [(1, .ofNat 0, .ofNat 600), (2, .ofNat 1, .ofNat 600), (3, .ofNat 0, .ofNat 599), (4, .ofNat 0, .ofNat 599), (5, .ofNat 0, .ofNat 1000000)], [(3, 1, .ofNat 0), (3, 2, .negSucc 0), (4, 1, .ofNat 0), (4, 2, .negSucc 0), (4, 3, .ofNat 0)], [(0, .inl 1), (1, .inr (false, (1, .ofNat 0)))], [], [(1, (0, .ofNat 0), .inl 2), (1, (0, .ofNat 2), .inr (false, (2, .ofNat 0))), (1, (0, .ofNat 3), .inr (false, (0, .ofNat 2))), (1, (0, .ofNat 4), .inr (false, (3, .ofNat 0))), (1, (0, .ofNat 5), .inr (false, (4, .ofNat 0))), (1, (0, .ofNat 6), .inr (false, (5, .ofNat 0)))], [], []), ((0, 1, .ofNat 600), (0, 0, .ofNat 0), (0, 0, .ofNat 0)), 0, 0)]
set_option maxRecDepth 1000000 in
theorem cv2 {gh : sxGh} (hg : sxGd sxKw gh) : sxCtV sxKw gh ct2 := sxMeB_ok (cts := []) (cuts := cu2) (sp := []) 257 (by decide +kernel) hg (by decide) (by decide) (fun _ h => absurd h List.not_mem_nil)
/-- LotBeliefs.Tape.isWord -/
def ct3 : sxCt := (85, 0, (1, [], [], [(0, .inl 1), (1, .inl 1000002)], [], [], [], []), [], [
  (1, [], [], [], [.inr (false, (0, .ofNat 0))], [], [], []), 
  (1, [], [], [], [.inr (false, (0, .ofNat 1))], [], [], [])], [], 0, 0)
def cu3 : List sxCu := []
set_option maxRecDepth 1000000 in
theorem cv3 {gh : sxGh} (hg : sxGd sxKw gh) : sxCtV sxKw gh ct3 := sxMeB_ok (cts := []) (cuts := cu3) (sp := []) 174 (by decide +kernel) hg (by decide) (by decide) (fun _ h => absurd h List.not_mem_nil)
/-- LotBeliefs.Sentence.readNot -/
def ct4 : sxCt := (44, 2, (1, [], [], [(0, .inl 1), (1, .inl 3)], [], [(1, (0, .ofNat 7), .inr (false, (0, .ofNat 6)))], [], []), [(1, 4), (1, 9), (1, 10)], [
  (1, [], [], [], [.inr (true, (0, .ofNat 0))], [(1, (0, .ofNat 3), .inr (false, (0, .ofNat 4))), (1, (0, .ofNat 7), .inr (false, (0, .ofNat 6)))], [], [])], [], 0, 0)
def cu4 : List sxCu := []
set_option maxRecDepth 1000000 in
theorem cv4 {gh : sxGh} (hg : sxGd sxKw gh) : sxCtV sxKw gh ct4 := sxMeB_ok (cts := []) (cuts := cu4) (sp := []) 95 (by decide +kernel) hg (by decide) (by decide) (fun _ h => absurd h List.not_mem_nil)
/-- LotBeliefs.Tape.isWord -/
def ct5 : sxCt := (85, 0, (1, [], [], [(0, .inl 1), (1, .inl 1000003)], [], [], [], []), [], [
  (1, [], [], [], [.inr (false, (0, .ofNat 0))], [], [], []), 
  (1, [], [], [], [.inr (false, (0, .ofNat 1))], [], [], [])], [], 0, 0)
def cu5 : List sxCu := []
set_option maxRecDepth 1000000 in
theorem cv5 {gh : sxGh} (hg : sxGd sxKw gh) : sxCtV sxKw gh ct5 := sxMeB_ok (cts := []) (cuts := cu5) (sp := []) 144 (by decide +kernel) hg (by decide) (by decide) (fun _ h => absurd h List.not_mem_nil)
/-- LotBeliefs.Sentence.readIf -/
def ct6 : sxCt := (45, 2, (1, [], [], [(0, .inl 1), (1, .inl 3)], [], [(1, (0, .ofNat 7), .inr (false, (0, .ofNat 6)))], [], []), [(1, 4), (1, 9), (1, 10)], [
  (1, [], [], [], [.inr (true, (0, .ofNat 0))], [(1, (0, .ofNat 3), .inr (false, (0, .ofNat 4))), (1, (0, .ofNat 7), .inr (false, (0, .ofNat 6)))], [], [])], [], 0, 0)
def cu6 : List sxCu := []
set_option maxRecDepth 1000000 in
theorem cv6 {gh : sxGh} (hg : sxGd sxKw gh) : sxCtV sxKw gh ct6 := sxMeB_ok (cts := []) (cuts := cu6) (sp := []) 95 (by decide +kernel) hg (by decide) (by decide) (fun _ h => absurd h List.not_mem_nil)
/-- LotBeliefs.Sentence.readBrackets -/
def ct7 : sxCt := (46, 2, (1, [], [], [(0, .inl 1), (1, .inl 3)], [], [(1, (0, .ofNat 7), .inr (false, (0, .ofNat 6)))], [], []), [(1, 4), (1, 9), (1, 10)], [
  (1, [], [], [], [.inr (true, (0, .ofNat 0))], [(1, (0, .ofNat 3), .inr (false, (0, .ofNat 4))), (1, (0, .ofNat 7), .inr (false, (0, .ofNat 6)))], [], [])], [], 0, 0)
def cu7 : List sxCu := []
set_option maxRecDepth 1000000 in
theorem cv7 {gh : sxGh} (hg : sxGd sxKw gh) : sxCtV sxKw gh ct7 := sxMeB_ok (cts := []) (cuts := cu7) (sp := []) 95 (by decide +kernel) hg (by decide) (by decide) (fun _ h => absurd h List.not_mem_nil)
/-- LotBeliefs.Sentence.readAtom -/
def ct8 : sxCt := (47, 1, (1, [], [], [(0, .inl 1), (1, .inl 3)], [], [(1, (0, .ofNat 7), .inr (false, (0, .ofNat 6)))], [], []), [(1, 4), (1, 5), (1, 6), (1, 7), (1, 9), (1, 10)], [
  (3, [(1, .negSucc 9223372036854775807, .ofNat 9223372036854775807), (2, .ofNat 0, .ofNat 4)], [], [], [.inr (true, (1, .ofNat 0))], [(1, (0, .ofNat 3), .inr (false, (2, .ofNat 0))), (1, (0, .ofNat 7), .inr (false, (0, .ofNat 6)))], [], [])], [], 0, 0)
def cu8 : List sxCu := []
set_option maxRecDepth 1000000 in
theorem cv8 {gh : sxGh} (hg : sxGd sxKw gh) : sxCtV sxKw gh ct8 := sxMeB_ok (cts := [ct2]) (cuts := cu8) (sp := []) 222 (by decide +kernel) hg (by decide) (by decide) (List.forall_mem_cons.mpr ⟨cv2 hg, (fun _ h => absurd h List.not_mem_nil)⟩)
/-- LotBeliefs.Sentence.readPart -/
def ct9 : sxCt := (43, 3, (1, [], [], [(0, .inl 1), (1, .inl 3)], [], [(1, (0, .ofNat 7), .inr (false, (0, .ofNat 6)))], [], []), [(1, 4), (1, 5), (1, 6), (1, 7), (1, 9), (1, 10)], [
  (3, [(1, .negSucc 9223372036854775807, .ofNat 9223372036854775807), (2, .ofNat 0, .ofNat 4)], [], [], [.inr (true, (1, .ofNat 0))], [(1, (0, .ofNat 3), .inr (false, (2, .ofNat 0))), (1, (0, .ofNat 7), .inr (false, (0, .ofNat 6)))], [], [])], [], 0, 0)
def cu9 : List sxCu := []
set_option maxRecDepth 1000000 in
theorem cv9 {gh : sxGh} (hg : sxGd sxKw gh) : sxCtV sxKw gh ct9 := sxMeB_ok (cts := [ct4, ct6, ct7, ct8, ct3, ct5]) (cuts := cu9) (sp := []) 118 (by decide +kernel) hg (by decide) (by decide) (List.forall_mem_cons.mpr ⟨cv4 hg, (List.forall_mem_cons.mpr ⟨cv6 hg, (List.forall_mem_cons.mpr ⟨cv7 hg, (List.forall_mem_cons.mpr ⟨cv8 hg, (List.forall_mem_cons.mpr ⟨cv3 hg, (List.forall_mem_cons.mpr ⟨cv5 hg, (fun _ h => absurd h List.not_mem_nil)⟩)⟩)⟩)⟩)⟩)⟩)
/-- LotBeliefs.Sentence.readNot -/
def ct10 : sxCt := (44, 4, (1, [], [], [(0, .inl 1), (1, .inl 3)], [], [(1, (0, .ofNat 7), .inr (false, (0, .ofNat 5)))], [], []), [(1, 4), (1, 5), (1, 6), (1, 7), (1, 8), (1, 9), (1, 10)], [
  (3, [(1, .negSucc 9223372036854775807, .ofNat 9223372036854775807), (2, .ofNat 0, .ofNat 4)], [], [], [.inr (true, (1, .ofNat 0))], [(1, (0, .ofNat 3), .inr (false, (2, .ofNat 0))), (1, (0, .ofNat 7), .inr (false, (0, .ofNat 5)))], [], [])], [], 0, 0)
def cu10 : List sxCu := []
set_option maxRecDepth 1000000 in
theorem cv10 {gh : sxGh} (hg : sxGd sxKw gh) : sxCtV sxKw gh ct10 := sxMeB_ok (cts := [ct9, ct2]) (cuts := cu10) (sp := []) 99 (by decide +kernel) hg (by decide) (by decide) (List.forall_mem_cons.mpr ⟨cv9 hg, (List.forall_mem_cons.mpr ⟨cv2 hg, (fun _ h => absurd h List.not_mem_nil)⟩)⟩)
/-- LotBeliefs.Tape.isWord -/
def ct11 : sxCt := (85, 0, (1, [], [], [(0, .inl 1), (1, .inl 1000004)], [], [], [], []), [], [
  (1, [], [], [], [.inr (false, (0, .ofNat 0))], [], [], []), 
  (1, [], [], [], [.inr (false, (0, .ofNat 1))], [], [], [])], [], 0, 0)
def cu11 : List sxCu := []
set_option maxRecDepth 1000000 in
theorem cv11 {gh : sxGh} (hg : sxGd sxKw gh) : sxCtV sxKw gh ct11 := sxMeB_ok (cts := []) (cuts := cu11) (sp := []) 204 (by decide +kernel) hg (by decide) (by decide) (fun _ h => absurd h List.not_mem_nil)
/-- LotBeliefs.Sentence.readIf -/
def ct12 : sxCt := (45, 4, (1, [], [], [(0, .inl 1), (1, .inl 3)], [], [(1, (0, .ofNat 7), .inr (false, (0, .ofNat 5)))], [], []), [(1, 4), (1, 5), (1, 6), (1, 7), (1, 8), (1, 9), (1, 10)], [
  (3, [(1, .negSucc 9223372036854775807, .ofNat 9223372036854775807), (2, .ofNat 0, .ofNat 4)], [], [], [.inr (true, (1, .ofNat 0))], [(1, (0, .ofNat 3), .inr (false, (2, .ofNat 0))), (1, (0, .ofNat 7), .inr (false, (0, .ofNat 5)))], [], [])], [], 0, 0)
def cu12 : List sxCu := []
set_option maxRecDepth 1000000 in
theorem cv12 {gh : sxGh} (hg : sxGd sxKw gh) : sxCtV sxKw gh ct12 := sxMeB_ok (cts := [ct9, ct2, ct11]) (cuts := cu12) (sp := []) 177 (by decide +kernel) hg (by decide) (by decide) (List.forall_mem_cons.mpr ⟨cv9 hg, (List.forall_mem_cons.mpr ⟨cv2 hg, (List.forall_mem_cons.mpr ⟨cv11 hg, (fun _ h => absurd h List.not_mem_nil)⟩)⟩)⟩)
/-- LotBeliefs.Tape.isWord -/
def ct13 : sxCt := (85, 0, (1, [], [], [(0, .inl 1), (1, .inl 1000005)], [], [], [], []), [], [
  (1, [], [], [], [.inr (false, (0, .ofNat 0))], [], [], []), 
  (1, [], [], [], [.inr (false, (0, .ofNat 1))], [], [], [])], [], 0, 0)
def cu13 : List sxCu := []
set_option maxRecDepth 1000000 in
theorem cv13 {gh : sxGh} (hg : sxGd sxKw gh) : sxCtV sxKw gh ct13 := sxMeB_ok (cts := []) (cuts := cu13) (sp := []) 174 (by decide +kernel) hg (by decide) (by decide) (fun _ h => absurd h List.not_mem_nil)
/-- LotBeliefs.Sentence.readEach -/
def ct14 : sxCt := (42, 4, (1, [], [], [(0, .inl 1), (1, .inl 3)], [], [(1, (0, .ofNat 7), .inr (false, (0, .ofNat 6)))], [], []), [(1, 4), (1, 5), (1, 6), (1, 7), (1, 9), (1, 10)], [
  (3, [(1, .negSucc 9223372036854775807, .ofNat 9223372036854775807), (2, .ofNat 0, .ofNat 4)], [], [], [.inr (true, (1, .ofNat 0))], [(1, (0, .ofNat 3), .inr (false, (2, .ofNat 0))), (1, (0, .ofNat 7), .inr (false, (0, .ofNat 6)))], [], [])], [], 0, 0)
def cu14 : List sxCu := [
  (9, (4, [(1, .negSucc 9223372036854775807, .ofNat 9223372036854775807), (2, .ofNat 0, .ofNat 600), (3, .ofNat 0, .ofNat 4)], [], [(0, .inl 1), (1, .inl 3), (2, .inr (true, (1, .ofNat 0))), (4, .inr (false, (2, .ofNat 0)))], [], [(1, (0, .ofNat 3), .inr (false, (3, .ofNat 0))), (1, (0, .ofNat 7), .inr (false, (0, .ofNat 6)))], [], []), ((0, 2, .ofNat 600), (0, 0, .ofNat 0), (0, 0, .ofNat 0)), 0, 0)]
set_option maxRecDepth 1000000 in
theorem cv14 {gh : sxGh} (hg : sxGd sxKw gh) : sxCtV sxKw gh ct14 := sxMeB_ok (cts := [ct9, ct2, ct13]) (cuts := cu14) (sp := []) 92 (by decide +kernel) hg (by decide) (by decide) (List.forall_mem_cons.mpr ⟨cv9 hg, (List.forall_mem_cons.mpr ⟨cv2 hg, (List.forall_mem_cons.mpr ⟨cv13 hg, (fun _ h => absurd h List.not_mem_nil)⟩)⟩)⟩)
/-- LotBeliefs.Tape.isWord -/
def ct15 : sxCt := (85, 0, (1, [], [], [(0, .inl 1), (1, .inl 1000006)], [], [], [], []), [], [
  (1, [], [], [], [.inr (false, (0, .ofNat 0))], [], [], []), 
  (1, [], [], [], [.inr (false, (0, .ofNat 1))], [], [], [])], [], 0, 0)
def cu15 : List sxCu := []
set_option maxRecDepth 1000000 in
theorem cv15 {gh : sxGh} (hg : sxGd sxKw gh) : sxCtV sxKw gh ct15 := sxMeB_ok (cts := []) (cuts := cu15) (sp := []) 144 (by decide +kernel) hg (by decide) (by decide) (fun _ h => absurd h List.not_mem_nil)
/-- LotBeliefs.Sentence.readEither -/
def ct16 : sxCt := (41, 5, (1, [], [], [(0, .inl 1), (1, .inl 3)], [], [(1, (0, .ofNat 7), .inr (false, (0, .ofNat 6)))], [], []), [(1, 4), (1, 5), (1, 6), (1, 7), (1, 9), (1, 10)], [
  (3, [(1, .negSucc 9223372036854775807, .ofNat 9223372036854775807), (2, .ofNat 0, .ofNat 4)], [], [], [.inr (true, (1, .ofNat 0))], [(1, (0, .ofNat 3), .inr (false, (2, .ofNat 0))), (1, (0, .ofNat 7), .inr (false, (0, .ofNat 6)))], [], [])], [], 0, 0)
def cu16 : List sxCu := [
  (9, (4, [(1, .negSucc 9223372036854775807, .ofNat 9223372036854775807), (2, .ofNat 0, .ofNat 600), (3, .ofNat 0, .ofNat 4)], [], [(0, .inl 1), (1, .inl 3), (2, .inr (true, (1, .ofNat 0))), (4, .inr (false, (2, .ofNat 0)))], [], [(1, (0, .ofNat 3), .inr (false, (3, .ofNat 0))), (1, (0, .ofNat 7), .inr (false, (0, .ofNat 6)))], [], []), ((0, 2, .ofNat 600), (0, 0, .ofNat 0), (0, 0, .ofNat 0)), 0, 0)]
set_option maxRecDepth 1000000 in
theorem cv16 {gh : sxGh} (hg : sxGd sxKw gh) : sxCtV sxKw gh ct16 := sxMeB_ok (cts := [ct14, ct2, ct15]) (cuts := cu16) (sp := []) 92 (by decide +kernel) hg (by decide) (by decide) (List.forall_mem_cons.mpr ⟨cv14 hg, (List.forall_mem_cons.mpr ⟨cv2 hg, (List.forall_mem_cons.mpr ⟨cv15 hg, (fun _ h => absurd h List.not_mem_nil)⟩)⟩)⟩)
/-- LotBeliefs.Sentence.readBrackets -/
def ct17 : sxCt := (46, 6, (1, [], [], [(0, .inl 1), (1, .inl 3)], [], [(1, (0, .ofNat 7), .inr (false, (0, .ofNat 5)))], [], []), [(1, 4), (1, 5), (1, 6), (1, 7), (1, 8), (1, 9), (1, 10)], [
  (3, [(1, .negSucc 9223372036854775807, .ofNat 9223372036854775807), (2, .ofNat 0, .ofNat 4)], [], [], [.inr (true, (1, .ofNat 0))], [(1, (0, .ofNat 3), .inr (false, (2, .ofNat 0))), (1, (0, .ofNat 7), .inr (false, (0, .ofNat 5)))], [], [])], [], 0, 0)
def cu17 : List sxCu := []
set_option maxRecDepth 1000000 in
theorem cv17 {gh : sxGh} (hg : sxGd sxKw gh) : sxCtV sxKw gh ct17 := sxMeB_ok (cts := [ct16, ct2]) (cuts := cu17) (sp := []) 196 (by decide +kernel) hg (by decide) (by decide) (List.forall_mem_cons.mpr ⟨cv16 hg, (List.forall_mem_cons.mpr ⟨cv2 hg, (fun _ h => absurd h List.not_mem_nil)⟩)⟩)
/-- LotBeliefs.Sentence.readAtom -/
def ct18 : sxCt := (47, 1, (1, [], [], [(0, .inl 1), (1, .inl 3)], [], [(1, (0, .ofNat 7), .inr (false, (0, .ofNat 5)))], [], []), [(1, 4), (1, 5), (1, 6), (1, 7), (1, 9), (1, 10)], [
  (3, [(1, .negSucc 9223372036854775807, .ofNat 9223372036854775807), (2, .ofNat 0, .ofNat 4)], [], [], [.inr (true, (1, .ofNat 0))], [(1, (0, .ofNat 3), .inr (false, (2, .ofNat 0))), (1, (0, .ofNat 7), .inr (false, (0, .ofNat 5)))], [], [])], [], 0, 0)
def cu18 : List sxCu := []
set_option maxRecDepth 1000000 in
theorem cv18 {gh : sxGh} (hg : sxGd sxKw gh) : sxCtV sxKw gh ct18 := sxMeB_ok (cts := [ct2]) (cuts := cu18) (sp := []) 222 (by decide +kernel) hg (by decide) (by decide) (List.forall_mem_cons.mpr ⟨cv2 hg, (fun _ h => absurd h List.not_mem_nil)⟩)
/-- LotBeliefs.Sentence.readPart -/
def ct19 : sxCt := (43, 7, (1, [], [], [(0, .inl 1), (1, .inl 3)], [], [(1, (0, .ofNat 7), .inr (false, (0, .ofNat 5)))], [], []), [(1, 4), (1, 5), (1, 6), (1, 7), (1, 8), (1, 9), (1, 10)], [
  (3, [(1, .negSucc 9223372036854775807, .ofNat 9223372036854775807), (2, .ofNat 0, .ofNat 4)], [], [], [.inr (true, (1, .ofNat 0))], [(1, (0, .ofNat 3), .inr (false, (2, .ofNat 0))), (1, (0, .ofNat 7), .inr (false, (0, .ofNat 5)))], [], [])], [], 0, 0)
def cu19 : List sxCu := []
set_option maxRecDepth 1000000 in
theorem cv19 {gh : sxGh} (hg : sxGd sxKw gh) : sxCtV sxKw gh ct19 := sxMeB_ok (cts := [ct10, ct12, ct17, ct18, ct3, ct5]) (cuts := cu19) (sp := []) 118 (by decide +kernel) hg (by decide) (by decide) (List.forall_mem_cons.mpr ⟨cv10 hg, (List.forall_mem_cons.mpr ⟨cv12 hg, (List.forall_mem_cons.mpr ⟨cv17 hg, (List.forall_mem_cons.mpr ⟨cv18 hg, (List.forall_mem_cons.mpr ⟨cv3 hg, (List.forall_mem_cons.mpr ⟨cv5 hg, (fun _ h => absurd h List.not_mem_nil)⟩)⟩)⟩)⟩)⟩)⟩)
/-- LotBeliefs.Sentence.readNot -/
def ct20 : sxCt := (44, 8, (1, [], [], [(0, .inl 1), (1, .inl 3)], [], [(1, (0, .ofNat 7), .inr (false, (0, .ofNat 4)))], [], []), [(1, 4), (1, 5), (1, 6), (1, 7), (1, 8), (1, 9), (1, 10)], [
  (3, [(1, .negSucc 9223372036854775807, .ofNat 9223372036854775807), (2, .ofNat 0, .ofNat 4)], [], [], [.inr (true, (1, .ofNat 0))], [(1, (0, .ofNat 3), .inr (false, (2, .ofNat 0))), (1, (0, .ofNat 7), .inr (false, (0, .ofNat 4)))], [], [])], [], 0, 0)
def cu20 : List sxCu := []
set_option maxRecDepth 1000000 in
theorem cv20 {gh : sxGh} (hg : sxGd sxKw gh) : sxCtV sxKw gh ct20 := sxMeB_ok (cts := [ct19, ct2]) (cuts := cu20) (sp := []) 99 (by decide +kernel) hg (by decide) (by decide) (List.forall_mem_cons.mpr ⟨cv19 hg, (List.forall_mem_cons.mpr ⟨cv2 hg, (fun _ h => absurd h List.not_mem_nil)⟩)⟩)
/-- LotBeliefs.Sentence.readIf -/
def ct21 : sxCt := (45, 8, (1, [], [], [(0, .inl 1), (1, .inl 3)], [], [(1, (0, .ofNat 7), .inr (false, (0, .ofNat 4)))], [], []), [(1, 4), (1, 5), (1, 6), (1, 7), (1, 8), (1, 9), (1, 10)], [
  (3, [(1, .negSucc 9223372036854775807, .ofNat 9223372036854775807), (2, .ofNat 0, .ofNat 4)], [], [], [.inr (true, (1, .ofNat 0))], [(1, (0, .ofNat 3), .inr (false, (2, .ofNat 0))), (1, (0, .ofNat 7), .inr (false, (0, .ofNat 4)))], [], [])], [], 0, 0)
def cu21 : List sxCu := []
set_option maxRecDepth 1000000 in
theorem cv21 {gh : sxGh} (hg : sxGd sxKw gh) : sxCtV sxKw gh ct21 := sxMeB_ok (cts := [ct19, ct2, ct11]) (cuts := cu21) (sp := []) 177 (by decide +kernel) hg (by decide) (by decide) (List.forall_mem_cons.mpr ⟨cv19 hg, (List.forall_mem_cons.mpr ⟨cv2 hg, (List.forall_mem_cons.mpr ⟨cv11 hg, (fun _ h => absurd h List.not_mem_nil)⟩)⟩)⟩)
/-- LotBeliefs.Sentence.readEach -/
def ct22 : sxCt := (42, 8, (1, [], [], [(0, .inl 1), (1, .inl 3)], [], [(1, (0, .ofNat 7), .inr (false, (0, .ofNat 5)))], [], []), [(1, 4), (1, 5), (1, 6), (1, 7), (1, 8), (1, 9), (1, 10)], [
  (3, [(1, .negSucc 9223372036854775807, .ofNat 9223372036854775807), (2, .ofNat 0, .ofNat 4)], [], [], [.inr (true, (1, .ofNat 0))], [(1, (0, .ofNat 3), .inr (false, (2, .ofNat 0))), (1, (0, .ofNat 7), .inr (false, (0, .ofNat 5)))], [], [])], [], 0, 0)
def cu22 : List sxCu := [
  (9, (4, [(1, .negSucc 9223372036854775807, .ofNat 9223372036854775807), (2, .ofNat 0, .ofNat 600), (3, .ofNat 0, .ofNat 4)], [], [(0, .inl 1), (1, .inl 3), (2, .inr (true, (1, .ofNat 0))), (4, .inr (false, (2, .ofNat 0)))], [], [(1, (0, .ofNat 3), .inr (false, (3, .ofNat 0))), (1, (0, .ofNat 7), .inr (false, (0, .ofNat 5)))], [], []), ((0, 2, .ofNat 600), (0, 0, .ofNat 0), (0, 0, .ofNat 0)), 0, 0)]
set_option maxRecDepth 1000000 in
theorem cv22 {gh : sxGh} (hg : sxGd sxKw gh) : sxCtV sxKw gh ct22 := sxMeB_ok (cts := [ct19, ct2, ct13]) (cuts := cu22) (sp := []) 92 (by decide +kernel) hg (by decide) (by decide) (List.forall_mem_cons.mpr ⟨cv19 hg, (List.forall_mem_cons.mpr ⟨cv2 hg, (List.forall_mem_cons.mpr ⟨cv13 hg, (fun _ h => absurd h List.not_mem_nil)⟩)⟩)⟩)
/-- LotBeliefs.Sentence.readEither -/
def ct23 : sxCt := (41, 9, (1, [], [], [(0, .inl 1), (1, .inl 3)], [], [(1, (0, .ofNat 7), .inr (false, (0, .ofNat 5)))], [], []), [(1, 4), (1, 5), (1, 6), (1, 7), (1, 8), (1, 9), (1, 10)], [
  (3, [(1, .negSucc 9223372036854775807, .ofNat 9223372036854775807), (2, .ofNat 0, .ofNat 4)], [], [], [.inr (true, (1, .ofNat 0))], [(1, (0, .ofNat 3), .inr (false, (2, .ofNat 0))), (1, (0, .ofNat 7), .inr (false, (0, .ofNat 5)))], [], [])], [], 0, 0)
def cu23 : List sxCu := [
  (9, (4, [(1, .negSucc 9223372036854775807, .ofNat 9223372036854775807), (2, .ofNat 0, .ofNat 600), (3, .ofNat 0, .ofNat 4)], [], [(0, .inl 1), (1, .inl 3), (2, .inr (true, (1, .ofNat 0))), (4, .inr (false, (2, .ofNat 0)))], [], [(1, (0, .ofNat 3), .inr (false, (3, .ofNat 0))), (1, (0, .ofNat 7), .inr (false, (0, .ofNat 5)))], [], []), ((0, 2, .ofNat 600), (0, 0, .ofNat 0), (0, 0, .ofNat 0)), 0, 0)]
set_option maxRecDepth 1000000 in
theorem cv23 {gh : sxGh} (hg : sxGd sxKw gh) : sxCtV sxKw gh ct23 := sxMeB_ok (cts := [ct22, ct2, ct15]) (cuts := cu23) (sp := []) 92 (by decide +kernel) hg (by decide) (by decide) (List.forall_mem_cons.mpr ⟨cv22 hg, (List.forall_mem_cons.mpr ⟨cv2 hg, (List.forall_mem_cons.mpr ⟨cv15 hg, (fun _ h => absurd h List.not_mem_nil)⟩)⟩)⟩)
/-- LotBeliefs.Sentence.readBrackets -/
def ct24 : sxCt := (46, 10, (1, [], [], [(0, .inl 1), (1, .inl 3)], [], [(1, (0, .ofNat 7), .inr (false, (0, .ofNat 4)))], [], []), [(1, 4), (1, 5), (1, 6), (1, 7), (1, 8), (1, 9), (1, 10)], [
  (3, [(1, .negSucc 9223372036854775807, .ofNat 9223372036854775807), (2, .ofNat 0, .ofNat 4)], [], [], [.inr (true, (1, .ofNat 0))], [(1, (0, .ofNat 3), .inr (false, (2, .ofNat 0))), (1, (0, .ofNat 7), .inr (false, (0, .ofNat 4)))], [], [])], [], 0, 0)
def cu24 : List sxCu := []
set_option maxRecDepth 1000000 in
theorem cv24 {gh : sxGh} (hg : sxGd sxKw gh) : sxCtV sxKw gh ct24 := sxMeB_ok (cts := [ct23, ct2]) (cuts := cu24) (sp := []) 196 (by decide +kernel) hg (by decide) (by decide) (List.forall_mem_cons.mpr ⟨cv23 hg, (List.forall_mem_cons.mpr ⟨cv2 hg, (fun _ h => absurd h List.not_mem_nil)⟩)⟩)
/-- LotBeliefs.Sentence.readAtom -/
def ct25 : sxCt := (47, 1, (1, [], [], [(0, .inl 1), (1, .inl 3)], [], [(1, (0, .ofNat 7), .inr (false, (0, .ofNat 4)))], [], []), [(1, 4), (1, 5), (1, 6), (1, 7), (1, 9), (1, 10)], [
  (3, [(1, .negSucc 9223372036854775807, .ofNat 9223372036854775807), (2, .ofNat 0, .ofNat 4)], [], [], [.inr (true, (1, .ofNat 0))], [(1, (0, .ofNat 3), .inr (false, (2, .ofNat 0))), (1, (0, .ofNat 7), .inr (false, (0, .ofNat 4)))], [], [])], [], 0, 0)
def cu25 : List sxCu := []
set_option maxRecDepth 1000000 in
theorem cv25 {gh : sxGh} (hg : sxGd sxKw gh) : sxCtV sxKw gh ct25 := sxMeB_ok (cts := [ct2]) (cuts := cu25) (sp := []) 222 (by decide +kernel) hg (by decide) (by decide) (List.forall_mem_cons.mpr ⟨cv2 hg, (fun _ h => absurd h List.not_mem_nil)⟩)
/-- LotBeliefs.Sentence.readPart -/
def ct26 : sxCt := (43, 11, (1, [], [], [(0, .inl 1), (1, .inl 3)], [], [(1, (0, .ofNat 7), .inr (false, (0, .ofNat 4)))], [], []), [(1, 4), (1, 5), (1, 6), (1, 7), (1, 8), (1, 9), (1, 10)], [
  (3, [(1, .negSucc 9223372036854775807, .ofNat 9223372036854775807), (2, .ofNat 0, .ofNat 4)], [], [], [.inr (true, (1, .ofNat 0))], [(1, (0, .ofNat 3), .inr (false, (2, .ofNat 0))), (1, (0, .ofNat 7), .inr (false, (0, .ofNat 4)))], [], [])], [], 0, 0)
def cu26 : List sxCu := []
set_option maxRecDepth 1000000 in
theorem cv26 {gh : sxGh} (hg : sxGd sxKw gh) : sxCtV sxKw gh ct26 := sxMeB_ok (cts := [ct20, ct21, ct24, ct25, ct3, ct5]) (cuts := cu26) (sp := []) 118 (by decide +kernel) hg (by decide) (by decide) (List.forall_mem_cons.mpr ⟨cv20 hg, (List.forall_mem_cons.mpr ⟨cv21 hg, (List.forall_mem_cons.mpr ⟨cv24 hg, (List.forall_mem_cons.mpr ⟨cv25 hg, (List.forall_mem_cons.mpr ⟨cv3 hg, (List.forall_mem_cons.mpr ⟨cv5 hg, (fun _ h => absurd h List.not_mem_nil)⟩)⟩)⟩)⟩)⟩)⟩)
/-- LotBeliefs.Sentence.readNot -/
def ct27 : sxCt := (44, 12, (1, [], [], [(0, .inl 1), (1, .inl 3)], [], [(1, (0, .ofNat 7), .inr (false, (0, .ofNat 3)))], [], []), [(1, 4), (1, 5), (1, 6), (1, 7), (1, 8), (1, 9), (1, 10)], [
  (3, [(1, .negSucc 9223372036854775807, .ofNat 9223372036854775807), (2, .ofNat 0, .ofNat 4)], [], [], [.inr (true, (1, .ofNat 0))], [(1, (0, .ofNat 3), .inr (false, (2, .ofNat 0))), (1, (0, .ofNat 7), .inr (false, (0, .ofNat 3)))], [], [])], [], 0, 0)
def cu27 : List sxCu := []
set_option maxRecDepth 1000000 in
theorem cv27 {gh : sxGh} (hg : sxGd sxKw gh) : sxCtV sxKw gh ct27 := sxMeB_ok (cts := [ct26, ct2]) (cuts := cu27) (sp := []) 99 (by decide +kernel) hg (by decide) (by decide) (List.forall_mem_cons.mpr ⟨cv26 hg, (List.forall_mem_cons.mpr ⟨cv2 hg, (fun _ h => absurd h List.not_mem_nil)⟩)⟩)
/-- LotBeliefs.Sentence.readIf -/
def ct28 : sxCt := (45, 12, (1, [], [], [(0, .inl 1), (1, .inl 3)], [], [(1, (0, .ofNat 7), .inr (false, (0, .ofNat 3)))], [], []), [(1, 4), (1, 5), (1, 6), (1, 7), (1, 8), (1, 9), (1, 10)], [
  (3, [(1, .negSucc 9223372036854775807, .ofNat 9223372036854775807), (2, .ofNat 0, .ofNat 4)], [], [], [.inr (true, (1, .ofNat 0))], [(1, (0, .ofNat 3), .inr (false, (2, .ofNat 0))), (1, (0, .ofNat 7), .inr (false, (0, .ofNat 3)))], [], [])], [], 0, 0)
def cu28 : List sxCu := []
set_option maxRecDepth 1000000 in
theorem cv28 {gh : sxGh} (hg : sxGd sxKw gh) : sxCtV sxKw gh ct28 := sxMeB_ok (cts := [ct26, ct2, ct11]) (cuts := cu28) (sp := []) 177 (by decide +kernel) hg (by decide) (by decide) (List.forall_mem_cons.mpr ⟨cv26 hg, (List.forall_mem_cons.mpr ⟨cv2 hg, (List.forall_mem_cons.mpr ⟨cv11 hg, (fun _ h => absurd h List.not_mem_nil)⟩)⟩)⟩)
/-- LotBeliefs.Sentence.readEach -/
def ct29 : sxCt := (42, 12, (1, [], [], [(0, .inl 1), (1, .inl 3)], [], [(1, (0, .ofNat 7), .inr (false, (0, .ofNat 4)))], [], []), [(1, 4), (1, 5), (1, 6), (1, 7), (1, 8), (1, 9), (1, 10)], [
  (3, [(1, .negSucc 9223372036854775807, .ofNat 9223372036854775807), (2, .ofNat 0, .ofNat 4)], [], [], [.inr (true, (1, .ofNat 0))], [(1, (0, .ofNat 3), .inr (false, (2, .ofNat 0))), (1, (0, .ofNat 7), .inr (false, (0, .ofNat 4)))], [], [])], [], 0, 0)
def cu29 : List sxCu := [
  (9, (4, [(1, .negSucc 9223372036854775807, .ofNat 9223372036854775807), (2, .ofNat 0, .ofNat 600), (3, .ofNat 0, .ofNat 4)], [], [(0, .inl 1), (1, .inl 3), (2, .inr (true, (1, .ofNat 0))), (4, .inr (false, (2, .ofNat 0)))], [], [(1, (0, .ofNat 3), .inr (false, (3, .ofNat 0))), (1, (0, .ofNat 7), .inr (false, (0, .ofNat 4)))], [], []), ((0, 2, .ofNat 600), (0, 0, .ofNat 0), (0, 0, .ofNat 0)), 0, 0)]
set_option maxRecDepth 1000000 in
theorem cv29 {gh : sxGh} (hg : sxGd sxKw gh) : sxCtV sxKw gh ct29 := sxMeB_ok (cts := [ct26, ct2, ct13]) (cuts := cu29) (sp := []) 92 (by decide +kernel) hg (by decide) (by decide) (List.forall_mem_cons.mpr ⟨cv26 hg, (List.forall_mem_cons.mpr ⟨cv2 hg, (List.forall_mem_cons.mpr ⟨cv13 hg, (fun _ h => absurd h List.not_mem_nil)⟩)⟩)⟩)
/-- LotBeliefs.Sentence.readEither -/
def ct30 : sxCt := (41, 13, (1, [], [], [(0, .inl 1), (1, .inl 3)], [], [(1, (0, .ofNat 7), .inr (false, (0, .ofNat 4)))], [], []), [(1, 4), (1, 5), (1, 6), (1, 7), (1, 8), (1, 9), (1, 10)], [
  (3, [(1, .negSucc 9223372036854775807, .ofNat 9223372036854775807), (2, .ofNat 0, .ofNat 4)], [], [], [.inr (true, (1, .ofNat 0))], [(1, (0, .ofNat 3), .inr (false, (2, .ofNat 0))), (1, (0, .ofNat 7), .inr (false, (0, .ofNat 4)))], [], [])], [], 0, 0)
def cu30 : List sxCu := [
  (9, (4, [(1, .negSucc 9223372036854775807, .ofNat 9223372036854775807), (2, .ofNat 0, .ofNat 600), (3, .ofNat 0, .ofNat 4)], [], [(0, .inl 1), (1, .inl 3), (2, .inr (true, (1, .ofNat 0))), (4, .inr (false, (2, .ofNat 0)))], [], [(1, (0, .ofNat 3), .inr (false, (3, .ofNat 0))), (1, (0, .ofNat 7), .inr (false, (0, .ofNat 4)))], [], []), ((0, 2, .ofNat 600), (0, 0, .ofNat 0), (0, 0, .ofNat 0)), 0, 0)]
set_option maxRecDepth 1000000 in
theorem cv30 {gh : sxGh} (hg : sxGd sxKw gh) : sxCtV sxKw gh ct30 := sxMeB_ok (cts := [ct29, ct2, ct15]) (cuts := cu30) (sp := []) 92 (by decide +kernel) hg (by decide) (by decide) (List.forall_mem_cons.mpr ⟨cv29 hg, (List.forall_mem_cons.mpr ⟨cv2 hg, (List.forall_mem_cons.mpr ⟨cv15 hg, (fun _ h => absurd h List.not_mem_nil)⟩)⟩)⟩)
/-- LotBeliefs.Sentence.readBrackets -/
def ct31 : sxCt := (46, 14, (1, [], [], [(0, .inl 1), (1, .inl 3)], [], [(1, (0, .ofNat 7), .inr (false, (0, .ofNat 3)))], [], []), [(1, 4), (1, 5), (1, 6), (1, 7), (1, 8), (1, 9), (1, 10)], [
  (3, [(1, .negSucc 9223372036854775807, .ofNat 9223372036854775807), (2, .ofNat 0, .ofNat 4)], [], [], [.inr (true, (1, .ofNat 0))], [(1, (0, .ofNat 3), .inr (false, (2, .ofNat 0))), (1, (0, .ofNat 7), .inr (false, (0, .ofNat 3)))], [], [])], [], 0, 0)
def cu31 : List sxCu := []
set_option maxRecDepth 1000000 in
theorem cv31 {gh : sxGh} (hg : sxGd sxKw gh) : sxCtV sxKw gh ct31 := sxMeB_ok (cts := [ct30, ct2]) (cuts := cu31) (sp := []) 196 (by decide +kernel) hg (by decide) (by decide) (List.forall_mem_cons.mpr ⟨cv30 hg, (List.forall_mem_cons.mpr ⟨cv2 hg, (fun _ h => absurd h List.not_mem_nil)⟩)⟩)
/-- LotBeliefs.Sentence.readAtom -/
def ct32 : sxCt := (47, 1, (1, [], [], [(0, .inl 1), (1, .inl 3)], [], [(1, (0, .ofNat 7), .inr (false, (0, .ofNat 3)))], [], []), [(1, 4), (1, 5), (1, 6), (1, 7), (1, 9), (1, 10)], [
  (3, [(1, .negSucc 9223372036854775807, .ofNat 9223372036854775807), (2, .ofNat 0, .ofNat 4)], [], [], [.inr (true, (1, .ofNat 0))], [(1, (0, .ofNat 3), .inr (false, (2, .ofNat 0))), (1, (0, .ofNat 7), .inr (false, (0, .ofNat 3)))], [], [])], [], 0, 0)
def cu32 : List sxCu := []
set_option maxRecDepth 1000000 in
theorem cv32 {gh : sxGh} (hg : sxGd sxKw gh) : sxCtV sxKw gh ct32 := sxMeB_ok (cts := [ct2]) (cuts := cu32) (sp := []) 222 (by decide +kernel) hg (by decide) (by decide) (List.forall_mem_cons.mpr ⟨cv2 hg, (fun _ h => absurd h List.not_mem_nil)⟩)
/-- LotBeliefs.Sentence.readPart -/
def ct33 : sxCt := (43, 15, (1, [], [], [(0, .inl 1), (1, .inl 3)], [], [(1, (0, .ofNat 7), .inr (false, (0, .ofNat 3)))], [], []), [(1, 4), (1, 5), (1, 6), (1, 7), (1, 8), (1, 9), (1, 10)], [
  (3, [(1, .negSucc 9223372036854775807, .ofNat 9223372036854775807), (2, .ofNat 0, .ofNat 4)], [], [], [.inr (true, (1, .ofNat 0))], [(1, (0, .ofNat 3), .inr (false, (2, .ofNat 0))), (1, (0, .ofNat 7), .inr (false, (0, .ofNat 3)))], [], [])], [], 0, 0)
def cu33 : List sxCu := []
set_option maxRecDepth 1000000 in
theorem cv33 {gh : sxGh} (hg : sxGd sxKw gh) : sxCtV sxKw gh ct33 := sxMeB_ok (cts := [ct27, ct28, ct31, ct32, ct3, ct5]) (cuts := cu33) (sp := []) 118 (by decide +kernel) hg (by decide) (by decide) (List.forall_mem_cons.mpr ⟨cv27 hg, (List.forall_mem_cons.mpr ⟨cv28 hg, (List.forall_mem_cons.mpr ⟨cv31 hg, (List.forall_mem_cons.mpr ⟨cv32 hg, (List.forall_mem_cons.mpr ⟨cv3 hg, (List.forall_mem_cons.mpr ⟨cv5 hg, (fun _ h => absurd h List.not_mem_nil)⟩)⟩)⟩)⟩)⟩)⟩)
/-- LotBeliefs.Sentence.readNot -/
def ct34 : sxCt := (44, 16, (1, [], [], [(0, .inl 1), (1, .inl 3)], [], [(1, (0, .ofNat 7), .inr (false, (0, .ofNat 2)))], [], []), [(1, 4), (1, 5), (1, 6), (1, 7), (1, 8), (1, 9), (1, 10)], [
  (3, [(1, .negSucc 9223372036854775807, .ofNat 9223372036854775807), (2, .ofNat 0, .ofNat 4)], [], [], [.inr (true, (1, .ofNat 0))], [(1, (0, .ofNat 3), .inr (false, (2, .ofNat 0))), (1, (0, .ofNat 7), .inr (false, (0, .ofNat 2)))], [], [])], [], 0, 0)
def cu34 : List sxCu := []
set_option maxRecDepth 1000000 in
theorem cv34 {gh : sxGh} (hg : sxGd sxKw gh) : sxCtV sxKw gh ct34 := sxMeB_ok (cts := [ct33, ct2]) (cuts := cu34) (sp := []) 99 (by decide +kernel) hg (by decide) (by decide) (List.forall_mem_cons.mpr ⟨cv33 hg, (List.forall_mem_cons.mpr ⟨cv2 hg, (fun _ h => absurd h List.not_mem_nil)⟩)⟩)
/-- LotBeliefs.Sentence.readIf -/
def ct35 : sxCt := (45, 16, (1, [], [], [(0, .inl 1), (1, .inl 3)], [], [(1, (0, .ofNat 7), .inr (false, (0, .ofNat 2)))], [], []), [(1, 4), (1, 5), (1, 6), (1, 7), (1, 8), (1, 9), (1, 10)], [
  (3, [(1, .negSucc 9223372036854775807, .ofNat 9223372036854775807), (2, .ofNat 0, .ofNat 4)], [], [], [.inr (true, (1, .ofNat 0))], [(1, (0, .ofNat 3), .inr (false, (2, .ofNat 0))), (1, (0, .ofNat 7), .inr (false, (0, .ofNat 2)))], [], [])], [], 0, 0)
def cu35 : List sxCu := []
set_option maxRecDepth 1000000 in
theorem cv35 {gh : sxGh} (hg : sxGd sxKw gh) : sxCtV sxKw gh ct35 := sxMeB_ok (cts := [ct33, ct2, ct11]) (cuts := cu35) (sp := []) 177 (by decide +kernel) hg (by decide) (by decide) (List.forall_mem_cons.mpr ⟨cv33 hg, (List.forall_mem_cons.mpr ⟨cv2 hg, (List.forall_mem_cons.mpr ⟨cv11 hg, (fun _ h => absurd h List.not_mem_nil)⟩)⟩)⟩)
/-- LotBeliefs.Sentence.readEach -/
def ct36 : sxCt := (42, 16, (1, [], [], [(0, .inl 1), (1, .inl 3)], [], [(1, (0, .ofNat 7), .inr (false, (0, .ofNat 3)))], [], []), [(1, 4), (1, 5), (1, 6), (1, 7), (1, 8), (1, 9), (1, 10)], [
  (3, [(1, .negSucc 9223372036854775807, .ofNat 9223372036854775807), (2, .ofNat 0, .ofNat 4)], [], [], [.inr (true, (1, .ofNat 0))], [(1, (0, .ofNat 3), .inr (false, (2, .ofNat 0))), (1, (0, .ofNat 7), .inr (false, (0, .ofNat 3)))], [], [])], [], 0, 0)
def cu36 : List sxCu := [
  (9, (4, [(1, .negSucc 9223372036854775807, .ofNat 9223372036854775807), (2, .ofNat 0, .ofNat 600), (3, .ofNat 0, .ofNat 4)], [], [(0, .inl 1), (1, .inl 3), (2, .inr (true, (1, .ofNat 0))), (4, .inr (false, (2, .ofNat 0)))], [], [(1, (0, .ofNat 3), .inr (false, (3, .ofNat 0))), (1, (0, .ofNat 7), .inr (false, (0, .ofNat 3)))], [], []), ((0, 2, .ofNat 600), (0, 0, .ofNat 0), (0, 0, .ofNat 0)), 0, 0)]
set_option maxRecDepth 1000000 in
theorem cv36 {gh : sxGh} (hg : sxGd sxKw gh) : sxCtV sxKw gh ct36 := sxMeB_ok (cts := [ct33, ct2, ct13]) (cuts := cu36) (sp := []) 92 (by decide +kernel) hg (by decide) (by decide) (List.forall_mem_cons.mpr ⟨cv33 hg, (List.forall_mem_cons.mpr ⟨cv2 hg, (List.forall_mem_cons.mpr ⟨cv13 hg, (fun _ h => absurd h List.not_mem_nil)⟩)⟩)⟩)
/-- LotBeliefs.Sentence.readEither -/
def ct37 : sxCt := (41, 17, (1, [], [], [(0, .inl 1), (1, .inl 3)], [], [(1, (0, .ofNat 7), .inr (false, (0, .ofNat 3)))], [], []), [(1, 4), (1, 5), (1, 6), (1, 7), (1, 8), (1, 9), (1, 10)], [
  (3, [(1, .negSucc 9223372036854775807, .ofNat 9223372036854775807), (2, .ofNat 0, .ofNat 4)], [], [], [.inr (true, (1, .ofNat 0))], [(1, (0, .ofNat 3), .inr (false, (2, .ofNat 0))), (1, (0, .ofNat 7), .inr (false, (0, .ofNat 3)))], [], [])], [], 0, 0)
def cu37 : List sxCu := [
  (9, (4, [(1, .negSucc 9223372036854775807, .ofNat 9223372036854775807), (2, .ofNat 0, .ofNat 600), (3, .ofNat 0, .ofNat 4)], [], [(0, .inl 1), (1, .inl 3), (2, .inr (true, (1, .ofNat 0))), (4, .inr (false, (2, .ofNat 0)))], [], [(1, (0, .ofNat 3), .inr (false, (3, .ofNat 0))), (1, (0, .ofNat 7), .inr (false, (0, .ofNat 3)))], [], []), ((0, 2, .ofNat 600), (0, 0, .ofNat 0), (0, 0, .ofNat 0)), 0, 0)]
set_option maxRecDepth 1000000 in
theorem cv37 {gh : sxGh} (hg : sxGd sxKw gh) : sxCtV sxKw gh ct37 := sxMeB_ok (cts := [ct36, ct2, ct15]) (cuts := cu37) (sp := []) 92 (by decide +kernel) hg (by decide) (by decide) (List.forall_mem_cons.mpr ⟨cv36 hg, (List.forall_mem_cons.mpr ⟨cv2 hg, (List.forall_mem_cons.mpr ⟨cv15 hg, (fun _ h => absurd h List.not_mem_nil)⟩)⟩)⟩)
/-- LotBeliefs.Sentence.readBrackets -/
def ct38 : sxCt := (46, 18, (1, [], [], [(0, .inl 1), (1, .inl 3)], [], [(1, (0, .ofNat 7), .inr (false, (0, .ofNat 2)))], [], []), [(1, 4), (1, 5), (1, 6), (1, 7), (1, 8), (1, 9), (1, 10)], [
  (3, [(1, .negSucc 9223372036854775807, .ofNat 9223372036854775807), (2, .ofNat 0, .ofNat 4)], [], [], [.inr (true, (1, .ofNat 0))], [(1, (0, .ofNat 3), .inr (false, (2, .ofNat 0))), (1, (0, .ofNat 7), .inr (false, (0, .ofNat 2)))], [], [])], [], 0, 0)
def cu38 : List sxCu := []
set_option maxRecDepth 1000000 in
theorem cv38 {gh : sxGh} (hg : sxGd sxKw gh) : sxCtV sxKw gh ct38 := sxMeB_ok (cts := [ct37, ct2]) (cuts := cu38) (sp := []) 196 (by decide +kernel) hg (by decide) (by decide) (List.forall_mem_cons.mpr ⟨cv37 hg, (List.forall_mem_cons.mpr ⟨cv2 hg, (fun _ h => absurd h List.not_mem_nil)⟩)⟩)
/-- LotBeliefs.Sentence.readAtom -/
def ct39 : sxCt := (47, 1, (1, [], [], [(0, .inl 1), (1, .inl 3)], [], [(1, (0, .ofNat 7), .inr (false, (0, .ofNat 2)))], [], []), [(1, 4), (1, 5), (1, 6), (1, 7), (1, 9), (1, 10)], [
  (3, [(1, .negSucc 9223372036854775807, .ofNat 9223372036854775807), (2, .ofNat 0, .ofNat 4)], [], [], [.inr (true, (1, .ofNat 0))], [(1, (0, .ofNat 3), .inr (false, (2, .ofNat 0))), (1, (0, .ofNat 7), .inr (false, (0, .ofNat 2)))], [], [])], [], 0, 0)
def cu39 : List sxCu := []
set_option maxRecDepth 1000000 in
theorem cv39 {gh : sxGh} (hg : sxGd sxKw gh) : sxCtV sxKw gh ct39 := sxMeB_ok (cts := [ct2]) (cuts := cu39) (sp := []) 222 (by decide +kernel) hg (by decide) (by decide) (List.forall_mem_cons.mpr ⟨cv2 hg, (fun _ h => absurd h List.not_mem_nil)⟩)
/-- LotBeliefs.Sentence.readPart -/
def ct40 : sxCt := (43, 19, (1, [], [], [(0, .inl 1), (1, .inl 3)], [], [(1, (0, .ofNat 7), .inr (false, (0, .ofNat 2)))], [], []), [(1, 4), (1, 5), (1, 6), (1, 7), (1, 8), (1, 9), (1, 10)], [
  (3, [(1, .negSucc 9223372036854775807, .ofNat 9223372036854775807), (2, .ofNat 0, .ofNat 4)], [], [], [.inr (true, (1, .ofNat 0))], [(1, (0, .ofNat 3), .inr (false, (2, .ofNat 0))), (1, (0, .ofNat 7), .inr (false, (0, .ofNat 2)))], [], [])], [], 0, 0)
def cu40 : List sxCu := []
set_option maxRecDepth 1000000 in
theorem cv40 {gh : sxGh} (hg : sxGd sxKw gh) : sxCtV sxKw gh ct40 := sxMeB_ok (cts := [ct34, ct35, ct38, ct39, ct3, ct5]) (cuts := cu40) (sp := []) 118 (by decide +kernel) hg (by decide) (by decide) (List.forall_mem_cons.mpr ⟨cv34 hg, (List.forall_mem_cons.mpr ⟨cv35 hg, (List.forall_mem_cons.mpr ⟨cv38 hg, (List.forall_mem_cons.mpr ⟨cv39 hg, (List.forall_mem_cons.mpr ⟨cv3 hg, (List.forall_mem_cons.mpr ⟨cv5 hg, (fun _ h => absurd h List.not_mem_nil)⟩)⟩)⟩)⟩)⟩)⟩)
/-- LotBeliefs.Sentence.readNot -/
def ct41 : sxCt := (44, 20, (1, [], [], [(0, .inl 1), (1, .inl 3)], [], [(1, (0, .ofNat 7), .inr (false, (0, .ofNat 1)))], [], []), [(1, 4), (1, 5), (1, 6), (1, 7), (1, 8), (1, 9), (1, 10)], [
  (3, [(1, .negSucc 9223372036854775807, .ofNat 9223372036854775807), (2, .ofNat 0, .ofNat 4)], [], [], [.inr (true, (1, .ofNat 0))], [(1, (0, .ofNat 3), .inr (false, (2, .ofNat 0))), (1, (0, .ofNat 7), .inr (false, (0, .ofNat 1)))], [], [])], [], 0, 0)
def cu41 : List sxCu := []
set_option maxRecDepth 1000000 in
theorem cv41 {gh : sxGh} (hg : sxGd sxKw gh) : sxCtV sxKw gh ct41 := sxMeB_ok (cts := [ct40, ct2]) (cuts := cu41) (sp := []) 99 (by decide +kernel) hg (by decide) (by decide) (List.forall_mem_cons.mpr ⟨cv40 hg, (List.forall_mem_cons.mpr ⟨cv2 hg, (fun _ h => absurd h List.not_mem_nil)⟩)⟩)
/-- LotBeliefs.Sentence.readIf -/
def ct42 : sxCt := (45, 20, (1, [], [], [(0, .inl 1), (1, .inl 3)], [], [(1, (0, .ofNat 7), .inr (false, (0, .ofNat 1)))], [], []), [(1, 4), (1, 5), (1, 6), (1, 7), (1, 8), (1, 9), (1, 10)], [
  (3, [(1, .negSucc 9223372036854775807, .ofNat 9223372036854775807), (2, .ofNat 0, .ofNat 4)], [], [], [.inr (true, (1, .ofNat 0))], [(1, (0, .ofNat 3), .inr (false, (2, .ofNat 0))), (1, (0, .ofNat 7), .inr (false, (0, .ofNat 1)))], [], [])], [], 0, 0)
def cu42 : List sxCu := []
set_option maxRecDepth 1000000 in
theorem cv42 {gh : sxGh} (hg : sxGd sxKw gh) : sxCtV sxKw gh ct42 := sxMeB_ok (cts := [ct40, ct2, ct11]) (cuts := cu42) (sp := []) 177 (by decide +kernel) hg (by decide) (by decide) (List.forall_mem_cons.mpr ⟨cv40 hg, (List.forall_mem_cons.mpr ⟨cv2 hg, (List.forall_mem_cons.mpr ⟨cv11 hg, (fun _ h => absurd h List.not_mem_nil)⟩)⟩)⟩)
/-- LotBeliefs.Sentence.readEach -/
def ct43 : sxCt := (42, 20, (1, [], [], [(0, .inl 1), (1, .inl 3)], [], [(1, (0, .ofNat 7), .inr (false, (0, .ofNat 2)))], [], []), [(1, 4), (1, 5), (1, 6), (1, 7), (1, 8), (1, 9), (1, 10)], [
  (3, [(1, .negSucc 9223372036854775807, .ofNat 9223372036854775807), (2, .ofNat 0, .ofNat 4)], [], [], [.inr (true, (1, .ofNat 0))], [(1, (0, .ofNat 3), .inr (false, (2, .ofNat 0))), (1, (0, .ofNat 7), .inr (false, (0, .ofNat 2)))], [], [])], [], 0, 0)
def cu43 : List sxCu := [
  (9, (4, [(1, .negSucc 9223372036854775807, .ofNat 9223372036854775807), (2, .ofNat 0, .ofNat 600), (3, .ofNat 0, .ofNat 4)], [], [(0, .inl 1), (1, .inl 3), (2, .inr (true, (1, .ofNat 0))), (4, .inr (false, (2, .ofNat 0)))], [], [(1, (0, .ofNat 3), .inr (false, (3, .ofNat 0))), (1, (0, .ofNat 7), .inr (false, (0, .ofNat 2)))], [], []), ((0, 2, .ofNat 600), (0, 0, .ofNat 0), (0, 0, .ofNat 0)), 0, 0)]
set_option maxRecDepth 1000000 in
theorem cv43 {gh : sxGh} (hg : sxGd sxKw gh) : sxCtV sxKw gh ct43 := sxMeB_ok (cts := [ct40, ct2, ct13]) (cuts := cu43) (sp := []) 92 (by decide +kernel) hg (by decide) (by decide) (List.forall_mem_cons.mpr ⟨cv40 hg, (List.forall_mem_cons.mpr ⟨cv2 hg, (List.forall_mem_cons.mpr ⟨cv13 hg, (fun _ h => absurd h List.not_mem_nil)⟩)⟩)⟩)
/-- LotBeliefs.Sentence.readEither -/
def ct44 : sxCt := (41, 21, (1, [], [], [(0, .inl 1), (1, .inl 3)], [], [(1, (0, .ofNat 7), .inr (false, (0, .ofNat 2)))], [], []), [(1, 4), (1, 5), (1, 6), (1, 7), (1, 8), (1, 9), (1, 10)], [
  (3, [(1, .negSucc 9223372036854775807, .ofNat 9223372036854775807), (2, .ofNat 0, .ofNat 4)], [], [], [.inr (true, (1, .ofNat 0))], [(1, (0, .ofNat 3), .inr (false, (2, .ofNat 0))), (1, (0, .ofNat 7), .inr (false, (0, .ofNat 2)))], [], [])], [], 0, 0)
def cu44 : List sxCu := [
  (9, (4, [(1, .negSucc 9223372036854775807, .ofNat 9223372036854775807), (2, .ofNat 0, .ofNat 600), (3, .ofNat 0, .ofNat 4)], [], [(0, .inl 1), (1, .inl 3), (2, .inr (true, (1, .ofNat 0))), (4, .inr (false, (2, .ofNat 0)))], [], [(1, (0, .ofNat 3), .inr (false, (3, .ofNat 0))), (1, (0, .ofNat 7), .inr (false, (0, .ofNat 2)))], [], []), ((0, 2, .ofNat 600), (0, 0, .ofNat 0), (0, 0, .ofNat 0)), 0, 0)]
set_option maxRecDepth 1000000 in
theorem cv44 {gh : sxGh} (hg : sxGd sxKw gh) : sxCtV sxKw gh ct44 := sxMeB_ok (cts := [ct43, ct2, ct15]) (cuts := cu44) (sp := []) 92 (by decide +kernel) hg (by decide) (by decide) (List.forall_mem_cons.mpr ⟨cv43 hg, (List.forall_mem_cons.mpr ⟨cv2 hg, (List.forall_mem_cons.mpr ⟨cv15 hg, (fun _ h => absurd h List.not_mem_nil)⟩)⟩)⟩)
/-- LotBeliefs.Sentence.readBrackets -/
def ct45 : sxCt := (46, 22, (1, [], [], [(0, .inl 1), (1, .inl 3)], [], [(1, (0, .ofNat 7), .inr (false, (0, .ofNat 1)))], [], []), [(1, 4), (1, 5), (1, 6), (1, 7), (1, 8), (1, 9), (1, 10)], [
  (3, [(1, .negSucc 9223372036854775807, .ofNat 9223372036854775807), (2, .ofNat 0, .ofNat 4)], [], [], [.inr (true, (1, .ofNat 0))], [(1, (0, .ofNat 3), .inr (false, (2, .ofNat 0))), (1, (0, .ofNat 7), .inr (false, (0, .ofNat 1)))], [], [])], [], 0, 0)
def cu45 : List sxCu := []
set_option maxRecDepth 1000000 in
theorem cv45 {gh : sxGh} (hg : sxGd sxKw gh) : sxCtV sxKw gh ct45 := sxMeB_ok (cts := [ct44, ct2]) (cuts := cu45) (sp := []) 196 (by decide +kernel) hg (by decide) (by decide) (List.forall_mem_cons.mpr ⟨cv44 hg, (List.forall_mem_cons.mpr ⟨cv2 hg, (fun _ h => absurd h List.not_mem_nil)⟩)⟩)
/-- LotBeliefs.Sentence.readAtom -/
def ct46 : sxCt := (47, 1, (1, [], [], [(0, .inl 1), (1, .inl 3)], [], [(1, (0, .ofNat 7), .inr (false, (0, .ofNat 1)))], [], []), [(1, 4), (1, 5), (1, 6), (1, 7), (1, 9), (1, 10)], [
  (3, [(1, .negSucc 9223372036854775807, .ofNat 9223372036854775807), (2, .ofNat 0, .ofNat 4)], [], [], [.inr (true, (1, .ofNat 0))], [(1, (0, .ofNat 3), .inr (false, (2, .ofNat 0))), (1, (0, .ofNat 7), .inr (false, (0, .ofNat 1)))], [], [])], [], 0, 0)
def cu46 : List sxCu := []
set_option maxRecDepth 1000000 in
theorem cv46 {gh : sxGh} (hg : sxGd sxKw gh) : sxCtV sxKw gh ct46 := sxMeB_ok (cts := [ct2]) (cuts := cu46) (sp := []) 222 (by decide +kernel) hg (by decide) (by decide) (List.forall_mem_cons.mpr ⟨cv2 hg, (fun _ h => absurd h List.not_mem_nil)⟩)
/-- LotBeliefs.Sentence.readPart -/
def ct47 : sxCt := (43, 23, (1, [], [], [(0, .inl 1), (1, .inl 3)], [], [(1, (0, .ofNat 7), .inr (false, (0, .ofNat 1)))], [], []), [(1, 4), (1, 5), (1, 6), (1, 7), (1, 8), (1, 9), (1, 10)], [
  (3, [(1, .negSucc 9223372036854775807, .ofNat 9223372036854775807), (2, .ofNat 0, .ofNat 4)], [], [], [.inr (true, (1, .ofNat 0))], [(1, (0, .ofNat 3), .inr (false, (2, .ofNat 0))), (1, (0, .ofNat 7), .inr (false, (0, .ofNat 1)))], [], [])], [], 0, 0)
def cu47 : List sxCu := []
set_option maxRecDepth 1000000 in
theorem cv47 {gh : sxGh} (hg : sxGd sxKw gh) : sxCtV sxKw gh ct47 := sxMeB_ok (cts := [ct41, ct42, ct45, ct46, ct3, ct5]) (cuts := cu47) (sp := []) 118 (by decide +kernel) hg (by decide) (by decide) (List.forall_mem_cons.mpr ⟨cv41 hg, (List.forall_mem_cons.mpr ⟨cv42 hg, (List.forall_mem_cons.mpr ⟨cv45 hg, (List.forall_mem_cons.mpr ⟨cv46 hg, (List.forall_mem_cons.mpr ⟨cv3 hg, (List.forall_mem_cons.mpr ⟨cv5 hg, (fun _ h => absurd h List.not_mem_nil)⟩)⟩)⟩)⟩)⟩)⟩)
/-- LotBeliefs.Sentence.readNot -/
def ct48 : sxCt := (44, 24, (1, [], [], [(0, .inl 1), (1, .inl 3)], [], [(1, (0, .ofNat 7), .inr (false, (0, .ofNat 0)))], [], []), [(1, 4), (1, 5), (1, 6), (1, 7), (1, 8), (1, 9), (1, 10)], [
  (3, [(1, .negSucc 9223372036854775807, .ofNat 9223372036854775807), (2, .ofNat 0, .ofNat 4)], [], [], [.inr (true, (1, .ofNat 0))], [(1, (0, .ofNat 3), .inr (false, (2, .ofNat 0))), (1, (0, .ofNat 7), .inr (false, (0, .ofNat 0)))], [], [])], [], 0, 0)
def cu48 : List sxCu := []
set_option maxRecDepth 1000000 in
theorem cv48 {gh : sxGh} (hg : sxGd sxKw gh) : sxCtV sxKw gh ct48 := sxMeB_ok (cts := [ct47, ct2]) (cuts := cu48) (sp := []) 99 (by decide +kernel) hg (by decide) (by decide) (List.forall_mem_cons.mpr ⟨cv47 hg, (List.forall_mem_cons.mpr ⟨cv2 hg, (fun _ h => absurd h List.not_mem_nil)⟩)⟩)
/-- LotBeliefs.Sentence.readIf -/
def ct49 : sxCt := (45, 24, (1, [], [], [(0, .inl 1), (1, .inl 3)], [], [(1, (0, .ofNat 7), .inr (false, (0, .ofNat 0)))], [], []), [(1, 4), (1, 5), (1, 6), (1, 7), (1, 8), (1, 9), (1, 10)], [
  (3, [(1, .negSucc 9223372036854775807, .ofNat 9223372036854775807), (2, .ofNat 0, .ofNat 4)], [], [], [.inr (true, (1, .ofNat 0))], [(1, (0, .ofNat 3), .inr (false, (2, .ofNat 0))), (1, (0, .ofNat 7), .inr (false, (0, .ofNat 0)))], [], [])], [], 0, 0)
def cu49 : List sxCu := []
set_option maxRecDepth 1000000 in
theorem cv49 {gh : sxGh} (hg : sxGd sxKw gh) : sxCtV sxKw gh ct49 := sxMeB_ok (cts := [ct47, ct2, ct11]) (cuts := cu49) (sp := []) 177 (by decide +kernel) hg (by decide) (by decide) (List.forall_mem_cons.mpr ⟨cv47 hg, (List.forall_mem_cons.mpr ⟨cv2 hg, (List.forall_mem_cons.mpr ⟨cv11 hg, (fun _ h => absurd h List.not_mem_nil)⟩)⟩)⟩)
/-- LotBeliefs.Sentence.readEach -/
def ct50 : sxCt := (42, 24, (1, [], [], [(0, .inl 1), (1, .inl 3)], [], [(1, (0, .ofNat 7), .inr (false, (0, .ofNat 1)))], [], []), [(1, 4), (1, 5), (1, 6), (1, 7), (1, 8), (1, 9), (1, 10)], [
  (3, [(1, .negSucc 9223372036854775807, .ofNat 9223372036854775807), (2, .ofNat 0, .ofNat 4)], [], [], [.inr (true, (1, .ofNat 0))], [(1, (0, .ofNat 3), .inr (false, (2, .ofNat 0))), (1, (0, .ofNat 7), .inr (false, (0, .ofNat 1)))], [], [])], [], 0, 0)
def cu50 : List sxCu := [
  (9, (4, [(1, .negSucc 9223372036854775807, .ofNat 9223372036854775807), (2, .ofNat 0, .ofNat 600), (3, .ofNat 0, .ofNat 4)], [], [(0, .inl 1), (1, .inl 3), (2, .inr (true, (1, .ofNat 0))), (4, .inr (false, (2, .ofNat 0)))], [], [(1, (0, .ofNat 3), .inr (false, (3, .ofNat 0))), (1, (0, .ofNat 7), .inr (false, (0, .ofNat 1)))], [], []), ((0, 2, .ofNat 600), (0, 0, .ofNat 0), (0, 0, .ofNat 0)), 0, 0)]
set_option maxRecDepth 1000000 in
theorem cv50 {gh : sxGh} (hg : sxGd sxKw gh) : sxCtV sxKw gh ct50 := sxMeB_ok (cts := [ct47, ct2, ct13]) (cuts := cu50) (sp := []) 92 (by decide +kernel) hg (by decide) (by decide) (List.forall_mem_cons.mpr ⟨cv47 hg, (List.forall_mem_cons.mpr ⟨cv2 hg, (List.forall_mem_cons.mpr ⟨cv13 hg, (fun _ h => absurd h List.not_mem_nil)⟩)⟩)⟩)
/-- LotBeliefs.Sentence.readEither -/
def ct51 : sxCt := (41, 25, (1, [], [], [(0, .inl 1), (1, .inl 3)], [], [(1, (0, .ofNat 7), .inr (false, (0, .ofNat 1)))], [], []), [(1, 4), (1, 5), (1, 6), (1, 7), (1, 8), (1, 9), (1, 10)], [
  (3, [(1, .negSucc 9223372036854775807, .ofNat 9223372036854775807), (2, .ofNat 0, .ofNat 4)], [], [], [.inr (true, (1, .ofNat 0))], [(1, (0, .ofNat 3), .inr (false, (2, .ofNat 0))), (1, (0, .ofNat 7), .inr (false, (0, .ofNat 1)))], [], [])], [], 0, 0)
def cu51 : List sxCu := [
  (9, (4, [(1, .negSucc 9223372036854775807, .ofNat 9223372036854775807), (2, .ofNat 0, .ofNat 600), (3, .ofNat 0, .ofNat 4)], [], [(0, .inl 1), (1, .inl 3), (2, .inr (true, (1, .ofNat 0))), (4, .inr (false, (2, .ofNat 0)))], [], [(1, (0, .ofNat 3), .inr (false, (3, .ofNat 0))), (1, (0, .ofNat 7), .inr (false, (0, .ofNat 1)))], [], []), ((0, 2, .ofNat 600), (0, 0, .ofNat 0), (0, 0, .ofNat 0)), 0, 0)]
set_option maxRecDepth 1000000 in
theorem cv51 {gh : sxGh} (hg : sxGd sxKw gh) : sxCtV sxKw gh ct51 := sxMeB_ok (cts := [ct50, ct2, ct15]) (cuts := cu51) (sp := []) 92 (by decide +kernel) hg (by decide) (by decide) (List.forall_mem_cons.mpr ⟨cv50 hg, (List.forall_mem_cons.mpr ⟨cv2 hg, (List.forall_mem_cons.mpr ⟨cv15 hg, (fun _ h => absurd h List.not_mem_nil)⟩)⟩)⟩)
/-- LotBeliefs.Sentence.readBrackets -/
def ct52 : sxCt := (46, 26, (1, [], [], [(0, .inl 1), (1, .inl 3)], [], [(1, (0, .ofNat 7), .inr (false, (0, .ofNat 0)))], [], []), [(1, 4), (1, 5), (1, 6), (1, 7), (1, 8), (1, 9), (1, 10)], [
  (3, [(1, .negSucc 9223372036854775807, .ofNat 9223372036854775807), (2, .ofNat 0, .ofNat 4)], [], [], [.inr (true, (1, .ofNat 0))], [(1, (0, .ofNat 3), .inr (false, (2, .ofNat 0))), (1, (0, .ofNat 7), .inr (false, (0, .ofNat 0)))], [], [])], [], 0, 0)
def cu52 : List sxCu := []
set_option maxRecDepth 1000000 in
theorem cv52 {gh : sxGh} (hg : sxGd sxKw gh) : sxCtV sxKw gh ct52 := sxMeB_ok (cts := [ct51, ct2]) (cuts := cu52) (sp := []) 196 (by decide +kernel) hg (by decide) (by decide) (List.forall_mem_cons.mpr ⟨cv51 hg, (List.forall_mem_cons.mpr ⟨cv2 hg, (fun _ h => absurd h List.not_mem_nil)⟩)⟩)
/-- LotBeliefs.Sentence.readAtom -/
def ct53 : sxCt := (47, 1, (1, [], [], [(0, .inl 1), (1, .inl 3)], [], [(1, (0, .ofNat 7), .inr (false, (0, .ofNat 0)))], [], []), [(1, 4), (1, 5), (1, 6), (1, 7), (1, 9), (1, 10)], [
  (3, [(1, .negSucc 9223372036854775807, .ofNat 9223372036854775807), (2, .ofNat 0, .ofNat 4)], [], [], [.inr (true, (1, .ofNat 0))], [(1, (0, .ofNat 3), .inr (false, (2, .ofNat 0))), (1, (0, .ofNat 7), .inr (false, (0, .ofNat 0)))], [], [])], [], 0, 0)
def cu53 : List sxCu := []
set_option maxRecDepth 1000000 in
theorem cv53 {gh : sxGh} (hg : sxGd sxKw gh) : sxCtV sxKw gh ct53 := sxMeB_ok (cts := [ct2]) (cuts := cu53) (sp := []) 222 (by decide +kernel) hg (by decide) (by decide) (List.forall_mem_cons.mpr ⟨cv2 hg, (fun _ h => absurd h List.not_mem_nil)⟩)
/-- LotBeliefs.Sentence.readPart -/
def ct54 : sxCt := (43, 27, (1, [], [], [(0, .inl 1), (1, .inl 3)], [], [(1, (0, .ofNat 7), .inr (false, (0, .ofNat 0)))], [], []), [(1, 4), (1, 5), (1, 6), (1, 7), (1, 8), (1, 9), (1, 10)], [
  (3, [(1, .negSucc 9223372036854775807, .ofNat 9223372036854775807), (2, .ofNat 0, .ofNat 4)], [], [], [.inr (true, (1, .ofNat 0))], [(1, (0, .ofNat 3), .inr (false, (2, .ofNat 0))), (1, (0, .ofNat 7), .inr (false, (0, .ofNat 0)))], [], [])], [], 0, 0)
def cu54 : List sxCu := []
set_option maxRecDepth 1000000 in
theorem cv54 {gh : sxGh} (hg : sxGd sxKw gh) : sxCtV sxKw gh ct54 := sxMeB_ok (cts := [ct48, ct49, ct52, ct53, ct3, ct5]) (cuts := cu54) (sp := []) 118 (by decide +kernel) hg (by decide) (by decide) (List.forall_mem_cons.mpr ⟨cv48 hg, (List.forall_mem_cons.mpr ⟨cv49 hg, (List.forall_mem_cons.mpr ⟨cv52 hg, (List.forall_mem_cons.mpr ⟨cv53 hg, (List.forall_mem_cons.mpr ⟨cv3 hg, (List.forall_mem_cons.mpr ⟨cv5 hg, (fun _ h => absurd h List.not_mem_nil)⟩)⟩)⟩)⟩)⟩)⟩)
/-- LotBeliefs.Sentence.readEach -/
def ct55 : sxCt := (42, 28, (1, [], [], [(0, .inl 1), (1, .inl 3)], [], [(1, (0, .ofNat 7), .inr (false, (0, .ofNat 0)))], [], []), [(1, 4), (1, 5), (1, 6), (1, 7), (1, 8), (1, 9), (1, 10)], [
  (3, [(1, .negSucc 9223372036854775807, .ofNat 9223372036854775807), (2, .ofNat 0, .ofNat 4)], [], [], [.inr (true, (1, .ofNat 0))], [(1, (0, .ofNat 3), .inr (false, (2, .ofNat 0))), (1, (0, .ofNat 7), .inr (false, (0, .ofNat 0)))], [], [])], [], 0, 0)
def cu55 : List sxCu := [
  (9, (4, [(1, .negSucc 9223372036854775807, .ofNat 9223372036854775807), (2, .ofNat 0, .ofNat 600), (3, .ofNat 0, .ofNat 4)], [], [(0, .inl 1), (1, .inl 3), (2, .inr (true, (1, .ofNat 0))), (4, .inr (false, (2, .ofNat 0)))], [], [(1, (0, .ofNat 3), .inr (false, (3, .ofNat 0))), (1, (0, .ofNat 7), .inr (false, (0, .ofNat 0)))], [], []), ((0, 2, .ofNat 600), (0, 0, .ofNat 0), (0, 0, .ofNat 0)), 0, 0)]
set_option maxRecDepth 1000000 in
theorem cv55 {gh : sxGh} (hg : sxGd sxKw gh) : sxCtV sxKw gh ct55 := sxMeB_ok (cts := [ct54, ct2, ct13]) (cuts := cu55) (sp := []) 92 (by decide +kernel) hg (by decide) (by decide) (List.forall_mem_cons.mpr ⟨cv54 hg, (List.forall_mem_cons.mpr ⟨cv2 hg, (List.forall_mem_cons.mpr ⟨cv13 hg, (fun _ h => absurd h List.not_mem_nil)⟩)⟩)⟩)
/-- LotBeliefs.Sentence.readEither -/
def ct56 : sxCt := (41, 29, (1, [], [], [(0, .inl 1), (1, .inl 3)], [], [(1, (0, .ofNat 7), .inr (false, (0, .ofNat 0)))], [], []), [(1, 4), (1, 5), (1, 6), (1, 7), (1, 8), (1, 9), (1, 10)], [
  (3, [(1, .negSucc 9223372036854775807, .ofNat 9223372036854775807), (2, .ofNat 0, .ofNat 4)], [], [], [.inr (true, (1, .ofNat 0))], [(1, (0, .ofNat 3), .inr (false, (2, .ofNat 0))), (1, (0, .ofNat 7), .inr (false, (0, .ofNat 0)))], [], [])], [], 0, 0)
def cu56 : List sxCu := [
  (9, (4, [(1, .negSucc 9223372036854775807, .ofNat 9223372036854775807), (2, .ofNat 0, .ofNat 600), (3, .ofNat 0, .ofNat 4)], [], [(0, .inl 1), (1, .inl 3), (2, .inr (true, (1, .ofNat 0))), (4, .inr (false, (2, .ofNat 0)))], [], [(1, (0, .ofNat 3), .inr (false, (3, .ofNat 0))), (1, (0, .ofNat 7), .inr (false, (0, .ofNat 0)))], [], []), ((0, 2, .ofNat 600), (0, 0, .ofNat 0), (0, 0, .ofNat 0)), 0, 0)]
set_option maxRecDepth 1000000 in
theorem cv56 {gh : sxGh} (hg : sxGd sxKw gh) : sxCtV sxKw gh ct56 := sxMeB_ok (cts := [ct55, ct2, ct15]) (cuts := cu56) (sp := []) 92 (by decide +kernel) hg (by decide) (by decide) (List.forall_mem_cons.mpr ⟨cv55 hg, (List.forall_mem_cons.mpr ⟨cv2 hg, (List.forall_mem_cons.mpr ⟨cv15 hg, (fun _ h => absurd h List.not_mem_nil)⟩)⟩)⟩)
/-- LotBeliefs.Sentence.readAlone -/
def ct57 : sxCt := (40, 30, (1, [], [], [(0, .inl 1), (1, .inl 3)], [], [(1, (0, .ofNat 7), .inr (false, (0, .ofNat 0)))], [], []), [(1, 4), (1, 5), (1, 6), (1, 7), (1, 8), (1, 9), (1, 10)], [
  (3, [(1, .negSucc 9223372036854775807, .ofNat 9223372036854775807), (2, .ofNat 0, .ofNat 4)], [], [], [.inr (true, (1, .ofNat 0))], [(1, (0, .ofNat 3), .inr (false, (2, .ofNat 0))), (1, (0, .ofNat 7), .inr (false, (0, .ofNat 0)))], [], [])], [], 0, 0)
def cu57 : List sxCu := []
set_option maxRecDepth 1000000 in
theorem cv57 {gh : sxGh} (hg : sxGd sxKw gh) : sxCtV sxKw gh ct57 := sxMeB_ok (cts := [ct56]) (cuts := cu57) (sp := []) 108 (by decide +kernel) hg (by decide) (by decide) (List.forall_mem_cons.mpr ⟨cv56 hg, (fun _ h => absurd h List.not_mem_nil)⟩)
/-- LotBeliefsModel.blanks -/
def ct58 : sxCt := (200, 1, (3, [(1, .ofNat 0, .ofNat 200), (2, .ofNat 0, .ofNat 200)], [], [(0, .inl 78)], [], [(78, (0, .ofNat 2), .inr (false, (1, .ofNat 0))), (78, (0, .ofNat 4), .inr (false, (2, .ofNat 0)))], [], []), [(78, 5), (579, 5)], [
  (4, [(3, .ofNat 0, .ofNat 200)], [(2, 3, .ofNat 0)], [], [], [(78, (0, .ofNat 2), .inr (false, (1, .ofNat 0))), (78, (0, .ofNat 4), .inr (false, (3, .ofNat 0)))], [], [])], [], 0, 0)
def cu58 : List sxCu := [
  (0, (4, [(1, .ofNat 1, .ofNat 200), (2, .ofNat 0, .ofNat 199), (3, .ofNat 1, .ofNat 200)], [(2, 3, .negSucc 0)], [(0, .inl 78)], [], [(78, (0, .ofNat 2), .inr (false, (1, .ofNat 0))), (78, (0, .ofNat 4), .inr (false, (3, .ofNat 0))), (78, (0, .ofNat 9), .inl 79)], [], []), ((0, 3, .ofNat 200), (0, 0, .ofNat 0), (0, 0, .ofNat 0)), 0, 0)]
set_option maxRecDepth 1000000 in
theorem cv58 {gh : sxGh} (hg : sxGd sxKw gh) : sxCtV sxKw gh ct58 := sxMeB_ok (cts := []) (cuts := cu58) (sp := []) 118 (by decide +kernel) hg (by decide) (by decide) (fun _ h => absurd h List.not_mem_nil)
/-- LotBeliefsModel.blanks -/
def ct59 : sxCt := (200, 1, (3, [(1, .ofNat 0, .ofNat 600), (2, .ofNat 0, .ofNat 600)], [], [(0, .inl 78)], [], [(78, (0, .ofNat 2), .inr (false, (1, .ofNat 0))), (78, (0, .ofNat 4), .inr (false, (2, .ofNat 0)))], [], []), [(78, 5), (579, 5)], [
  (4, [(3, .ofNat 0, .ofNat 600)], [(2, 3, .ofNat 0)], [], [], [(78, (0, .ofNat 2), .inr (false, (1, .ofNat 0))), (78, (0, .ofNat 4), .inr (false, (3, .ofNat 0)))], [], [])], [], 0, 0)
def cu59 : List sxCu := [
  (0, (4, [(1, .ofNat 1, .ofNat 600), (2, .ofNat 0, .ofNat 599), (3, .ofNat 1, .ofNat 600)], [(2, 3, .negSucc 0)], [(0, .inl 78)], [], [(78, (0, .ofNat 2), .inr (false, (1, .ofNat 0))), (78, (0, .ofNat 4), .inr (false, (3, .ofNat 0))), (78, (0, .ofNat 9), .inl 79)], [], []), ((0, 3, .ofNat 600), (0, 0, .ofNat 0), (0, 0, .ofNat 0)), 0, 0)]
set_option maxRecDepth 1000000 in
theorem cv59 {gh : sxGh} (hg : sxGd sxKw gh) : sxCtV sxKw gh ct59 := sxMeB_ok (cts := []) (cuts := cu59) (sp := []) 118 (by decide +kernel) hg (by decide) (by decide) (fun _ h => absurd h List.not_mem_nil)
/-- LotBeliefsModel.wordHere -/
def ct60 : sxCt := (205, 2, (3, [(1, .ofNat 0, .ofNat 600), (2, .ofNat 0, .ofNat 600)], [], [(0, .inl 78)], [], [(78, (0, .ofNat 2), .inr (false, (1, .ofNat 0))), (78, (0, .ofNat 4), .inr (false, (2, .ofNat 0)))], [], []), [(78, 5), (579, 5)], [
  (4, [(3, .ofNat 0, .ofNat 600)], [(2, 3, .ofNat 0)], [], [.inr (false, (0, .ofNat 0))], [(78, (0, .ofNat 2), .inr (false, (1, .ofNat 0))), (78, (0, .ofNat 4), .inr (false, (3, .ofNat 0)))], [], []), 
  (6, [(1, .ofNat 1, .ofNat 600), (2, .ofNat 0, .ofNat 599), (3, .ofNat 1, .ofNat 387420488), (4, .ofNat 0, .ofNat 599), (5, .ofNat 97, .ofNat 122)], [(2, 4, .ofNat 0), (4, 1, .negSucc 0), (5, 3, .ofNat 96)], [], [.inr (false, (3, .ofNat 0))], [(78, (0, .ofNat 2), .inr (false, (1, .ofNat 0))), (78, (0, .ofNat 4), .inr (false, (4, .ofNat 0))), (79, (4, .ofNat 0), .inr (false, (5, .ofNat 0)))], [], []), 
  (5, [(1, .ofNat 7, .ofNat 600), (2, .ofNat 0, .ofNat 593), (3, .ofNat 0, .ofNat 593), (4, .ofNat 97, .ofNat 122)], [(2, 3, .ofNat 0), (3, 1, .negSucc 6)], [], [.inr (false, (0, .negSucc 0))], [(78, (0, .ofNat 2), .inr (false, (1, .ofNat 0))), (78, (0, .ofNat 4), .inr (false, (3, .ofNat 0))), (79, (3, .ofNat 0), .inr (false, (4, .ofNat 0)))], [], [])], [], 0, 0)
def cu60 : List sxCu := [
  (53, (7, [(1, .ofNat 7, .ofNat 600), (2, .ofNat 0, .ofNat 593), (3, .ofNat 14900788, .ofNat 387420488), (4, .ofNat 6, .ofNat 600), (5, .ofNat 0, .ofNat 593), (6, .ofNat 97, .ofNat 122)], [(2, 5, .ofNat 0), (5, 1, .negSucc 6)], [(0, .inl 78), (1, .inr (false, (3, .ofNat 0))), (2, .inr (false, (4, .ofNat 0)))], [], [(78, (0, .ofNat 2), .inr (false, (1, .ofNat 0))), (78, (0, .ofNat 4), .inr (false, (5, .ofNat 0))), (78, (0, .ofNat 9), .inl 79), (79, (5, .ofNat 0), .inr (false, (6, .ofNat 0)))], [], []), ((0, 4, .ofNat 600), (0, 0, .ofNat 0), (0, 0, .ofNat 0)), 0, 0)]
set_option maxRecDepth 1000000 in
theorem cv60 {gh : sxGh} (hg : sxGd sxKw gh) : sxCtV sxKw gh ct60 := sxMeB_ok (cts := [ct59]) (cuts := cu60) (sp := []) 716 (by decide +kernel) hg (by decide) (by decide) (List.forall_mem_cons.mpr ⟨cv59 hg, (fun _ h => absurd h List.not_mem_nil)⟩)
/-- LotBeliefsModel.isWord -/
def ct61 : sxCt := (207, 3, (4, [(1, .ofNat 0, .ofNat 4), (2, .ofNat 0, .ofNat 600), (3, .ofNat 0, .ofNat 600)], [], [(0, .inl 78), (1, .inr (false, (0, .ofNat 14))), (2, .inr (false, (0, .ofNat 15))), (3, .inr (false, (0, .ofNat 20))), (4, .inr (false, (0, .ofNat 0))), (5, .inr (false, (0, .ofNat 0))), (6, .inr (false, (0, .ofNat 0)))], [], [(78, (0, .ofNat 5), .inr (false, (1, .ofNat 0))), (78, (0, .ofNat 2), .inr (false, (2, .ofNat 0))), (78, (0, .ofNat 4), .inr (false, (3, .ofNat 0)))], [], []), [(78, 5), (579, 5)], [
  (5, [(1, .ofNat 0, .ofNat 0), (4, .ofNat 0, .ofNat 600)], [(3, 4, .ofNat 0)], [], [.inr (false, (0, .ofNat 0))], [(78, (0, .ofNat 2), .inr (false, (2, .ofNat 0))), (78, (0, .ofNat 4), .inr (false, (4, .ofNat 0))), (78, (0, .ofNat 5), .inr (false, (1, .ofNat 0)))], [], []), 
  (6, [(1, .ofNat 0, .ofNat 0), (2, .ofNat 1, .ofNat 600), (3, .ofNat 0, .ofNat 599), (4, .ofNat 0, .ofNat 599), (5, .ofNat 97, .ofNat 122)], [(3, 4, .ofNat 0), (4, 2, .negSucc 0)], [], [.inr (false, (0, .ofNat 1))], [(78, (0, .ofNat 2), .inr (false, (2, .ofNat 0))), (78, (0, .ofNat 4), .inr (false, (4, .ofNat 0))), (78, (0, .ofNat 5), .inr (false, (1, .ofNat 0))), (79, (4, .ofNat 0), .inr (false, (5, .ofNat 0)))], [], []), 
  (4, [(1, .ofNat 1, .ofNat 4)], [], [], [.inr (false, (0, .ofNat 0))], [(78, (0, .ofNat 2), .inr (false, (2, .ofNat 0))), (78, (0, .ofNat 4), .inr (false, (3, .ofNat 0))), (78, (0, .ofNat 5), .inr (false, (1, .ofNat 0)))], [], [])], [], 0, 0)
def cu61 : List sxCu := []
set_option maxRecDepth 1000000 in
theorem cv61 {gh : sxGh} (hg : sxGd sxKw gh) : sxCtV sxKw gh ct61 := sxMeB_ok (cts := [ct60]) (cuts := cu61) (sp := []) 188 (by decide +kernel) hg (by decide) (by decide) (List.forall_mem_cons.mpr ⟨cv60 hg, (fun _ h => absurd h List.not_mem_nil)⟩)
/-- LotBeliefsModel.skipWord -/
def ct62 : sxCt := (208, 1, (4, [(1, .ofNat 0, .ofNat 600), (2, .ofNat 0, .ofNat 599), (3, .ofNat 97, .ofNat 122)], [(2, 1, .negSucc 0)], [(0, .inl 78)], [], [(78, (0, .ofNat 2), .inr (false, (1, .ofNat 0))), (78, (0, .ofNat 4), .inr (false, (2, .ofNat 0))), (79, (2, .ofNat 0), .inr (false, (3, .ofNat 0)))], [], []), [(78, 5), (579, 5)], [
  (5, [(4, .ofNat 1, .ofNat 600)], [(2, 4, .negSucc 0), (4, 1, .ofNat 0)], [], [], [(78, (0, .ofNat 2), .inr (false, (1, .ofNat 0))), (78, (0, .ofNat 4), .inr (false, (4, .ofNat 0)))], [], [])], [], 0, 0)
def cu62 : List sxCu := [
  (24, (5, [(1, .ofNat 0, .ofNat 600), (2, .ofNat 0, .ofNat 599), (3, .ofNat 97, .ofNat 122), (4, .ofNat 1, .ofNat 600)], [(2, 4, .negSucc 0), (4, 1, .ofNat 0), (2, 1, .negSucc 0)], [(0, .inl 78)], [], [(78, (0, .ofNat 2), .inr (false, (1, .ofNat 0))), (78, (0, .ofNat 4), .inr (false, (4, .ofNat 0))), (78, (0, .ofNat 9), .inl 79)], [], []), ((0, 4, .ofNat 600), (0, 0, .ofNat 0), (0, 0, .ofNat 0)), 0, 0)]
set_option maxRecDepth 1000000 in
theorem cv62 {gh : sxGh} (hg : sxGd sxKw gh) : sxCtV sxKw gh ct62 := sxMeB_ok (cts := []) (cuts := cu62) (sp := []) 140 (by decide +kernel) hg (by decide) (by decide) (fun _ h => absurd h List.not_mem_nil)
/-- LotBeliefsModel.isWord -/
def ct63 : sxCt := (207, 3, (4, [(1, .ofNat 0, .ofNat 4), (2, .ofNat 0, .ofNat 600), (3, .ofNat 0, .ofNat 600)], [], [(0, .inl 78), (1, .inr (false, (0, .ofNat 9))), (2, .inr (false, (0, .ofNat 6))), (3, .inr (false, (0, .ofNat 0))), (4, .inr (false, (0, .ofNat 0))), (5, .inr (false, (0, .ofNat 0))), (6, .inr (false, (0, .ofNat 0)))], [], [(78, (0, .ofNat 5), .inr (false, (1, .ofNat 0))), (78, (0, .ofNat 2), .inr (false, (2, .ofNat 0))), (78, (0, .ofNat 4), .inr (false, (3, .ofNat 0)))], [], []), [(78, 5), (579, 5)], [
  (5, [(1, .ofNat 0, .ofNat 0), (4, .ofNat 0, .ofNat 600)], [(3, 4, .ofNat 0)], [], [.inr (false, (0, .ofNat 0))], [(78, (0, .ofNat 2), .inr (false, (2, .ofNat 0))), (78, (0, .ofNat 4), .inr (false, (4, .ofNat 0))), (78, (0, .ofNat 5), .inr (false, (1, .ofNat 0)))], [], []), 
  (6, [(1, .ofNat 0, .ofNat 0), (2, .ofNat 1, .ofNat 600), (3, .ofNat 0, .ofNat 599), (4, .ofNat 0, .ofNat 599), (5, .ofNat 97, .ofNat 122)], [(3, 4, .ofNat 0), (4, 2, .negSucc 0)], [], [.inr (false, (0, .ofNat 1))], [(78, (0, .ofNat 2), .inr (false, (2, .ofNat 0))), (78, (0, .ofNat 4), .inr (false, (4, .ofNat 0))), (78, (0, .ofNat 5), .inr (false, (1, .ofNat 0))), (79, (4, .ofNat 0), .inr (false, (5, .ofNat 0)))], [], []), 
  (4, [(1, .ofNat 1, .ofNat 4)], [], [], [.inr (false, (0, .ofNat 0))], [(78, (0, .ofNat 2), .inr (false, (2, .ofNat 0))), (78, (0, .ofNat 4), .inr (false, (3, .ofNat 0))), (78, (0, .ofNat 5), .inr (false, (1, .ofNat 0)))], [], [])], [], 0, 0)
def cu63 : List sxCu := []
set_option maxRecDepth 1000000 in
theorem cv63 {gh : sxGh} (hg : sxGd sxKw gh) : sxCtV sxKw gh ct63 := sxMeB_ok (cts := [ct60]) (cuts := cu63) (sp := []) 179 (by decide +kernel) hg (by decide) (by decide) (List.forall_mem_cons.mpr ⟨cv60 hg, (fun _ h => absurd h List.not_mem_nil)⟩)
/-- LotBeliefsModel.wordHere -/
def ct64 : sxCt := (205, 2, (4, [(1, .ofNat 0, .ofNat 600), (2, .ofNat 0, .ofNat 600), (3, .ofNat 0, .ofNat 255)], [], [(0, .inl 78)], [], [(78, (0, .ofNat 2), .inr (false, (1, .ofNat 0))), (78, (0, .ofNat 4), .inr (false, (2, .ofNat 0))), (79, (2, .ofNat 0), .inr (false, (3, .ofNat 0)))], [], []), [(78, 5), (579, 5)], [
  (5, [(4, .ofNat 0, .ofNat 600)], [(2, 4, .ofNat 0)], [], [.inr (false, (0, .ofNat 0))], [(78, (0, .ofNat 2), .inr (false, (1, .ofNat 0))), (78, (0, .ofNat 4), .inr (false, (4, .ofNat 0)))], [], []), 
  (7, [(1, .ofNat 1, .ofNat 600), (2, .ofNat 0, .ofNat 599), (4, .ofNat 1, .ofNat 387420488), (5, .ofNat 0, .ofNat 599), (6, .ofNat 97, .ofNat 122)], [(2, 5, .ofNat 0), (5, 1, .negSucc 0), (6, 4, .ofNat 96)], [], [.inr (false, (4, .ofNat 0))], [(78, (0, .ofNat 2), .inr (false, (1, .ofNat 0))), (78, (0, .ofNat 4), .inr (false, (5, .ofNat 0))), (79, (5, .ofNat 0), .inr (false, (6, .ofNat 0)))], [], []), 
  (6, [(1, .ofNat 7, .ofNat 600), (2, .ofNat 0, .ofNat 593), (4, .ofNat 0, .ofNat 593), (5, .ofNat 97, .ofNat 122)], [(2, 4, .ofNat 0), (4, 1, .negSucc 6)], [], [.inr (false, (0, .negSucc 0))], [(78, (0, .ofNat 2), .inr (false, (1, .ofNat 0))), (78, (0, .ofNat 4), .inr (false, (4, .ofNat 0))), (79, (4, .ofNat 0), .inr (false, (5, .ofNat 0)))], [], [])], [], 0, 0)
def cu64 : List sxCu := [
  (53, (8, [(1, .ofNat 7, .ofNat 600), (2, .ofNat 0, .ofNat 593), (3, .ofNat 0, .ofNat 255), (4, .ofNat 14900788, .ofNat 387420488), (5, .ofNat 6, .ofNat 600), (6, .ofNat 0, .ofNat 593), (7, .ofNat 97, .ofNat 122)], [(2, 6, .ofNat 0), (6, 1, .negSucc 6)], [(0, .inl 78), (1, .inr (false, (4, .ofNat 0))), (2, .inr (false, (5, .ofNat 0)))], [], [(78, (0, .ofNat 2), .inr (false, (1, .ofNat 0))), (78, (0, .ofNat 4), .inr (false, (6, .ofNat 0))), (78, (0, .ofNat 9), .inl 79), (79, (6, .ofNat 0), .inr (false, (7, .ofNat 0)))], [], []), ((0, 5, .ofNat 600), (0, 0, .ofNat 0), (0, 0, .ofNat 0)), 0, 0)]
set_option maxRecDepth 1000000 in
theorem cv64 {gh : sxGh} (hg : sxGd sxKw gh) : sxCtV sxKw gh ct64 := sxMeB_ok (cts := [ct59]) (cuts := cu64) (sp := []) 716 (by decide +kernel) hg (by decide) (by decide) (List.forall_mem_cons.mpr ⟨cv59 hg, (fun _ h => absurd h List.not_mem_nil)⟩)
/-- LotBeliefsModel.isWord -/
def ct65 : sxCt := (207, 3, (5, [(1, .ofNat 0, .ofNat 4), (2, .ofNat 0, .ofNat 600), (3, .ofNat 0, .ofNat 600), (4, .ofNat 0, .ofNat 255)], [], [(0, .inl 78), (1, .inr (false, (0, .ofNat 9))), (2, .inr (false, (0, .ofNat 6))), (3, .inr (false, (0, .ofNat 0))), (4, .inr (false, (0, .ofNat 0))), (5, .inr (false, (0, .ofNat 0))), (6, .inr (false, (0, .ofNat 0)))], [], [(78, (0, .ofNat 5), .inr (false, (1, .ofNat 0))), (78, (0, .ofNat 2), .inr (false, (2, .ofNat 0))), (78, (0, .ofNat 4), .inr (false, (3, .ofNat 0))), (79, (3, .ofNat 0), .inr (false, (4, .ofNat 0)))], [], []), [(78, 5), (579, 5)], [
  (6, [(1, .ofNat 0, .ofNat 0), (5, .ofNat 0, .ofNat 600)], [(3, 5, .ofNat 0)], [], [.inr (false, (0, .ofNat 0))], [(78, (0, .ofNat 2), .inr (false, (2, .ofNat 0))), (78, (0, .ofNat 4), .inr (false, (5, .ofNat 0))), (78, (0, .ofNat 5), .inr (false, (1, .ofNat 0)))], [], []), 
  (7, [(1, .ofNat 0, .ofNat 0), (2, .ofNat 1, .ofNat 600), (3, .ofNat 0, .ofNat 599), (5, .ofNat 0, .ofNat 599), (6, .ofNat 97, .ofNat 122)], [(3, 5, .ofNat 0), (5, 2, .negSucc 0)], [], [.inr (false, (0, .ofNat 1))], [(78, (0, .ofNat 2), .inr (false, (2, .ofNat 0))), (78, (0, .ofNat 4), .inr (false, (5, .ofNat 0))), (78, (0, .ofNat 5), .inr (false, (1, .ofNat 0))), (79, (5, .ofNat 0), .inr (false, (6, .ofNat 0)))], [], []), 
  (5, [(1, .ofNat 1, .ofNat 4)], [], [], [.inr (false, (0, .ofNat 0))], [(78, (0, .ofNat 2), .inr (false, (2, .ofNat 0))), (78, (0, .ofNat 4), .inr (false, (3, .ofNat 0))), (78, (0, .ofNat 5), .inr (false, (1, .ofNat 0))), (79, (3, .ofNat 0), .inr (false, (4, .ofNat 0)))], [], [])], [], 0, 0)
def cu65 : List sxCu := []
set_option maxRecDepth 1000000 in
theorem cv65 {gh : sxGh} (hg : sxGd sxKw gh) : sxCtV sxKw gh ct65 := sxMeB_ok (cts := [ct64]) (cuts := cu65) (sp := []) 179 (by decide +kernel) hg (by decide) (by decide) (List.forall_mem_cons.mpr ⟨cv64 hg, (fun _ h => absurd h List.not_mem_nil)⟩)
/-- LotBeliefsModel.atomOf -/
def ct66 : sxCt := (215, 0, (2, [(1, .ofNat 0, .ofNat 5)], [], [(0, .inr (false, (1, .ofNat 0))), (1, .inr (false, (0, .ofNat 6)))], [], [], [], []), [], [
  (3, [(2, .negSucc 9223372036854775807, .ofNat 9223372036854775807)], [], [], [.inr (true, (2, .ofNat 0))], [], [], [])], [], 0, 0)
def cu66 : List sxCu := []
set_option maxRecDepth 1000000 in
theorem cv66 {gh : sxGh} (hg : sxGd sxKw gh) : sxCtV sxKw gh ct66 := sxMeB_ok (cts := []) (cuts := cu66) (sp := []) 1223 (by decide +kernel) hg (by decide) (by decide) (fun _ h => absurd h List.not_mem_nil)
/-- LotBeliefsModel.atomOf -/
def ct67 : sxCt := (215, 0, (3, [(1, .ofNat 0, .ofNat 4), (2, .ofNat 0, .ofNat 5)], [], [(0, .inr (false, (1, .ofNat 0))), (1, .inr (false, (2, .ofNat 0)))], [], [], [], []), [], [
  (4, [(3, .ofNat 0, .ofNat 4294967295)], [], [], [.inr (true, (3, .ofNat 0))], [], [], [])], [], 0, 0)
def cu67 : List sxCu := []
set_option maxRecDepth 1000000 in
theorem cv67 {gh : sxGh} (hg : sxGd sxKw gh) : sxCtV sxKw gh ct67 := sxMeB_ok (cts := []) (cuts := cu67) (sp := []) 709 (by decide +kernel) hg (by decide) (by decide) (fun _ h => absurd h List.not_mem_nil)
/-- LotBeliefsModel.oneOf -/
def ct68 : sxCt := (218, 4, (3, [(1, .ofNat 0, .ofNat 4), (2, .ofNat 0, .ofNat 600)], [], [(0, .inl 78)], [], [(78, (0, .ofNat 8), .inr (false, (0, .ofNat 6))), (78, (0, .ofNat 5), .inr (false, (1, .ofNat 0))), (78, (0, .ofNat 4), .inr (false, (2, .ofNat 0)))], [], []), [(78, 5), (78, 6), (78, 7), (579, 5)], [
  (5, [(3, .ofNat 0, .ofNat 600), (4, .ofNat 1, .ofNat 4)], [(1, 4, .ofNat 0), (2, 3, .ofNat 0), (4, 1, .ofNat 3)], [], [.inr (true, (0, .ofNat 0))], [(78, (0, .ofNat 4), .inr (false, (3, .ofNat 0))), (78, (0, .ofNat 5), .inr (false, (4, .ofNat 0))), (78, (0, .ofNat 8), .inr (false, (0, .ofNat 6)))], [], []), 
  (5, [(1, .ofNat 0, .ofNat 0), (2, .ofNat 0, .ofNat 599), (3, .negSucc 9223372036854775807, .ofNat 9223372036854775807), (4, .ofNat 1, .ofNat 600)], [(2, 4, .negSucc 0)], [], [.inr (true, (3, .ofNat 0))], [(78, (0, .ofNat 4), .inr (false, (4, .ofNat 0))), (78, (0, .ofNat 5), .inr (false, (0, .ofNat 0))), (78, (0, .ofNat 8), .inr (false, (0, .ofNat 6)))], [], [])], [], 0, 0)
def cu68 : List sxCu := []
set_option maxRecDepth 1000000 in
theorem cv68 {gh : sxGh} (hg : sxGd sxKw gh) : sxCtV sxKw gh ct68 := sxMeB_ok (cts := [ct59, ct61, ct63, ct65, ct66, ct67]) (cuts := cu68) (sp := []) 1119 (by decide +kernel) hg (by decide) (by decide) (List.forall_mem_cons.mpr ⟨cv59 hg, (List.forall_mem_cons.mpr ⟨cv61 hg, (List.forall_mem_cons.mpr ⟨cv63 hg, (List.forall_mem_cons.mpr ⟨cv65 hg, (List.forall_mem_cons.mpr ⟨cv66 hg, (List.forall_mem_cons.mpr ⟨cv67 hg, (fun _ h => absurd h List.not_mem_nil)⟩)⟩)⟩)⟩)⟩)⟩)
/-- LotBeliefsModel.isWord -/
def ct69 : sxCt := (207, 3, (4, [(1, .ofNat 0, .ofNat 4), (2, .ofNat 0, .ofNat 600), (3, .ofNat 0, .ofNat 600)], [], [(0, .inl 78), (1, .inr (false, (0, .ofNat 1))), (2, .inr (false, (0, .ofNat 14))), (3, .inr (false, (0, .ofNat 4))), (4, .inr (false, (0, .ofNat 0))), (5, .inr (false, (0, .ofNat 0))), (6, .inr (false, (0, .ofNat 0)))], [], [(78, (0, .ofNat 5), .inr (false, (1, .ofNat 0))), (78, (0, .ofNat 2), .inr (false, (2, .ofNat 0))), (78, (0, .ofNat 4), .inr (false, (3, .ofNat 0)))], [], []), [(78, 5), (579, 5)], [
  (5, [(1, .ofNat 0, .ofNat 0), (4, .ofNat 0, .ofNat 600)], [(3, 4, .ofNat 0)], [], [.inr (false, (0, .ofNat 0))], [(78, (0, .ofNat 2), .inr (false, (2, .ofNat 0))), (78, (0, .ofNat 4), .inr (false, (4, .ofNat 0))), (78, (0, .ofNat 5), .inr (false, (1, .ofNat 0)))], [], []), 
  (6, [(1, .ofNat 0, .ofNat 0), (2, .ofNat 1, .ofNat 600), (3, .ofNat 0, .ofNat 599), (4, .ofNat 0, .ofNat 599), (5, .ofNat 97, .ofNat 122)], [(3, 4, .ofNat 0), (4, 2, .negSucc 0)], [], [.inr (false, (0, .ofNat 1))], [(78, (0, .ofNat 2), .inr (false, (2, .ofNat 0))), (78, (0, .ofNat 4), .inr (false, (4, .ofNat 0))), (78, (0, .ofNat 5), .inr (false, (1, .ofNat 0))), (79, (4, .ofNat 0), .inr (false, (5, .ofNat 0)))], [], []), 
  (4, [(1, .ofNat 1, .ofNat 4)], [], [], [.inr (false, (0, .ofNat 0))], [(78, (0, .ofNat 2), .inr (false, (2, .ofNat 0))), (78, (0, .ofNat 4), .inr (false, (3, .ofNat 0))), (78, (0, .ofNat 5), .inr (false, (1, .ofNat 0)))], [], [])], [], 0, 0)
def cu69 : List sxCu := []
set_option maxRecDepth 1000000 in
theorem cv69 {gh : sxGh} (hg : sxGd sxKw gh) : sxCtV sxKw gh ct69 := sxMeB_ok (cts := [ct60]) (cuts := cu69) (sp := []) 188 (by decide +kernel) hg (by decide) (by decide) (List.forall_mem_cons.mpr ⟨cv60 hg, (fun _ h => absurd h List.not_mem_nil)⟩)
/-- LotBeliefsModel.takes -/
def ct70 : sxCt := (209, 4, (4, [(1, .ofNat 0, .ofNat 4), (2, .ofNat 0, .ofNat 600), (3, .ofNat 0, .ofNat 600)], [], [(0, .inl 78), (1, .inr (false, (0, .ofNat 1))), (2, .inr (false, (0, .ofNat 14))), (3, .inr (false, (0, .ofNat 4))), (4, .inr (false, (0, .ofNat 0))), (5, .inr (false, (0, .ofNat 0))), (6, .inr (false, (0, .ofNat 0)))], [], [(78, (0, .ofNat 5), .inr (false, (1, .ofNat 0))), (78, (0, .ofNat 2), .inr (false, (2, .ofNat 0))), (78, (0, .ofNat 4), .inr (false, (3, .ofNat 0)))], [], []), [(78, 5), (579, 5)], [
  (4, [(1, .ofNat 1, .ofNat 4)], [], [], [.inr (false, (0, .ofNat 0))], [(78, (0, .ofNat 2), .inr (false, (2, .ofNat 0))), (78, (0, .ofNat 4), .inr (false, (3, .ofNat 0))), (78, (0, .ofNat 5), .inr (false, (1, .ofNat 0)))], [], []), 
  (5, [(1, .ofNat 0, .ofNat 0), (2, .ofNat 1, .ofNat 600), (3, .ofNat 0, .ofNat 599), (4, .ofNat 1, .ofNat 600)], [(3, 4, .negSucc 0), (4, 2, .ofNat 0)], [], [.inr (false, (0, .ofNat 1))], [(78, (0, .ofNat 2), .inr (false, (2, .ofNat 0))), (78, (0, .ofNat 4), .inr (false, (4, .ofNat 0))), (78, (0, .ofNat 5), .inr (false, (1, .ofNat 0)))], [], []), 
  (5, [(1, .ofNat 0, .ofNat 0), (4, .ofNat 0, .ofNat 600)], [(3, 4, .ofNat 0)], [], [.inr (false, (0, .ofNat 0))], [(78, (0, .ofNat 2), .inr (false, (2, .ofNat 0))), (78, (0, .ofNat 4), .inr (false, (4, .ofNat 0))), (78, (0, .ofNat 5), .inr (false, (1, .ofNat 0)))], [], [])], [], 0, 0)
def cu70 : List sxCu := []
set_option maxRecDepth 1000000 in
theorem cv70 {gh : sxGh} (hg : sxGd sxKw gh) : sxCtV sxKw gh ct70 := sxMeB_ok (cts := [ct69, ct62]) (cuts := cu70) (sp := []) 87 (by decide +kernel) hg (by decide) (by decide) (List.forall_mem_cons.mpr ⟨cv69 hg, (List.forall_mem_cons.mpr ⟨cv62 hg, (fun _ h => absurd h List.not_mem_nil)⟩)⟩)
/-- LotBeliefsModel.eachOf -/
def ct71 : sxCt := (217, 5, (3, [(1, .ofNat 0, .ofNat 4), (2, .ofNat 0, .ofNat 600)], [], [(0, .inl 78)], [], [(78, (0, .ofNat 8), .inr (false, (0, .ofNat 6))), (78, (0, .ofNat 5), .inr (false, (1, .ofNat 0))), (78, (0, .ofNat 4), .inr (false, (2, .ofNat 0)))], [], []), [(78, 5), (78, 6), (78, 7), (579, 5)], [
  (5, [(1, .ofNat 0, .ofNat 0), (2, .ofNat 0, .ofNat 599), (3, .negSucc 9223372036854775807, .ofNat 9223372036854775807), (4, .ofNat 1, .ofNat 600)], [(2, 4, .negSucc 0)], [], [.inr (true, (3, .ofNat 0))], [(78, (0, .ofNat 4), .inr (false, (4, .ofNat 0))), (78, (0, .ofNat 5), .inr (false, (0, .ofNat 0))), (78, (0, .ofNat 8), .inr (false, (0, .ofNat 6)))], [], []), 
  (5, [(3, .ofNat 0, .ofNat 600), (4, .ofNat 1, .ofNat 4)], [(1, 4, .ofNat 0), (2, 3, .ofNat 0), (4, 1, .ofNat 3)], [], [.inr (true, (0, .ofNat 0))], [(78, (0, .ofNat 4), .inr (false, (3, .ofNat 0))), (78, (0, .ofNat 5), .inr (false, (4, .ofNat 0))), (78, (0, .ofNat 8), .inr (false, (0, .ofNat 6)))], [], [])], [], 0, 0)
def cu71 : List sxCu := [
  (5, (5, [(1, .ofNat 0, .ofNat 4), (2, .ofNat 0, .ofNat 600), (3, .ofNat 0, .ofNat 600), (4, .ofNat 1, .ofNat 4)], [(1, 4, .ofNat 0), (2, 3, .ofNat 0), (4, 1, .ofNat 3)], [(0, .inl 78), (1, .inr (true, (0, .ofNat 0)))], [], [(78, (0, .ofNat 4), .inr (false, (3, .ofNat 0))), (78, (0, .ofNat 5), .inr (false, (4, .ofNat 0))), (78, (0, .ofNat 8), .inr (false, (0, .ofNat 6)))], [], []), ((0, 3, .ofNat 600), (0, 0, .ofNat 0), (0, 0, .ofNat 0)), 0, 0), 
  (5, (5, [(1, .ofNat 0, .ofNat 0), (2, .ofNat 0, .ofNat 599), (3, .negSucc 9223372036854775807, .ofNat 9223372036854775807), (4, .ofNat 1, .ofNat 600)], [(2, 4, .negSucc 0)], [(0, .inl 78), (1, .inr (true, (3, .ofNat 0)))], [], [(78, (0, .ofNat 4), .inr (false, (4, .ofNat 0))), (78, (0, .ofNat 5), .inr (false, (0, .ofNat 0))), (78, (0, .ofNat 8), .inr (false, (0, .ofNat 6)))], [], []), ((0, 4, .ofNat 600), (0, 0, .ofNat 0), (0, 0, .ofNat 0)), 0, 0)]
set_option maxRecDepth 1000000 in
theorem cv71 {gh : sxGh} (hg : sxGd sxKw gh) : sxCtV sxKw gh ct71 := sxMeB_ok (cts := [ct70, ct68]) (cuts := cu71) (sp := []) 100 (by decide +kernel) hg (by decide) (by decide) (List.forall_mem_cons.mpr ⟨cv70 hg, (List.forall_mem_cons.mpr ⟨cv68 hg, (fun _ h => absurd h List.not_mem_nil)⟩)⟩)
/-- LotBeliefsModel.isWord -/
def ct72 : sxCt := (207, 3, (4, [(1, .ofNat 0, .ofNat 4), (2, .ofNat 0, .ofNat 600), (3, .ofNat 0, .ofNat 600)], [], [(0, .inl 78), (1, .inr (false, (0, .ofNat 15))), (2, .inr (false, (0, .ofNat 18))), (3, .inr (false, (0, .ofNat 0))), (4, .inr (false, (0, .ofNat 0))), (5, .inr (false, (0, .ofNat 0))), (6, .inr (false, (0, .ofNat 0)))], [], [(78, (0, .ofNat 5), .inr (false, (1, .ofNat 0))), (78, (0, .ofNat 2), .inr (false, (2, .ofNat 0))), (78, (0, .ofNat 4), .inr (false, (3, .ofNat 0)))], [], []), [(78, 5), (579, 5)], [
  (5, [(1, .ofNat 0, .ofNat 0), (4, .ofNat 0, .ofNat 600)], [(3, 4, .ofNat 0)], [], [.inr (false, (0, .ofNat 0))], [(78, (0, .ofNat 2), .inr (false, (2, .ofNat 0))), (78, (0, .ofNat 4), .inr (false, (4, .ofNat 0))), (78, (0, .ofNat 5), .inr (false, (1, .ofNat 0)))], [], []), 
  (6, [(1, .ofNat 0, .ofNat 0), (2, .ofNat 1, .ofNat 600), (3, .ofNat 0, .ofNat 599), (4, .ofNat 0, .ofNat 599), (5, .ofNat 97, .ofNat 122)], [(3, 4, .ofNat 0), (4, 2, .negSucc 0)], [], [.inr (false, (0, .ofNat 1))], [(78, (0, .ofNat 2), .inr (false, (2, .ofNat 0))), (78, (0, .ofNat 4), .inr (false, (4, .ofNat 0))), (78, (0, .ofNat 5), .inr (false, (1, .ofNat 0))), (79, (4, .ofNat 0), .inr (false, (5, .ofNat 0)))], [], []), 
  (4, [(1, .ofNat 1, .ofNat 4)], [], [], [.inr (false, (0, .ofNat 0))], [(78, (0, .ofNat 2), .inr (false, (2, .ofNat 0))), (78, (0, .ofNat 4), .inr (false, (3, .ofNat 0))), (78, (0, .ofNat 5), .inr (false, (1, .ofNat 0)))], [], [])], [], 0, 0)
def cu72 : List sxCu := []
set_option maxRecDepth 1000000 in
theorem cv72 {gh : sxGh} (hg : sxGd sxKw gh) : sxCtV sxKw gh ct72 := sxMeB_ok (cts := [ct60]) (cuts := cu72) (sp := []) 179 (by decide +kernel) hg (by decide) (by decide) (List.forall_mem_cons.mpr ⟨cv60 hg, (fun _ h => absurd h List.not_mem_nil)⟩)
/-- LotBeliefsModel.takes -/
def ct73 : sxCt := (209, 4, (4, [(1, .ofNat 0, .ofNat 4), (2, .ofNat 0, .ofNat 600), (3, .ofNat 0, .ofNat 600)], [], [(0, .inl 78), (1, .inr (false, (0, .ofNat 15))), (2, .inr (false, (0, .ofNat 18))), (3, .inr (false, (0, .ofNat 0))), (4, .inr (false, (0, .ofNat 0))), (5, .inr (false, (0, .ofNat 0))), (6, .inr (false, (0, .ofNat 0)))], [], [(78, (0, .ofNat 5), .inr (false, (1, .ofNat 0))), (78, (0, .ofNat 2), .inr (false, (2, .ofNat 0))), (78, (0, .ofNat 4), .inr (false, (3, .ofNat 0)))], [], []), [(78, 5), (579, 5)], [
  (4, [(1, .ofNat 1, .ofNat 4)], [], [], [.inr (false, (0, .ofNat 0))], [(78, (0, .ofNat 2), .inr (false, (2, .ofNat 0))), (78, (0, .ofNat 4), .inr (false, (3, .ofNat 0))), (78, (0, .ofNat 5), .inr (false, (1, .ofNat 0)))], [], []), 
  (5, [(1, .ofNat 0, .ofNat 0), (2, .ofNat 1, .ofNat 600), (3, .ofNat 0, .ofNat 599), (4, .ofNat 1, .ofNat 600)], [(3, 4, .negSucc 0), (4, 2, .ofNat 0)], [], [.inr (false, (0, .ofNat 1))], [(78, (0, .ofNat 2), .inr (false, (2, .ofNat 0))), (78, (0, .ofNat 4), .inr (false, (4, .ofNat 0))), (78, (0, .ofNat 5), .inr (false, (1, .ofNat 0)))], [], []), 
  (5, [(1, .ofNat 0, .ofNat 0), (4, .ofNat 0, .ofNat 600)], [(3, 4, .ofNat 0)], [], [.inr (false, (0, .ofNat 0))], [(78, (0, .ofNat 2), .inr (false, (2, .ofNat 0))), (78, (0, .ofNat 4), .inr (false, (4, .ofNat 0))), (78, (0, .ofNat 5), .inr (false, (1, .ofNat 0)))], [], [])], [], 0, 0)
def cu73 : List sxCu := []
set_option maxRecDepth 1000000 in
theorem cv73 {gh : sxGh} (hg : sxGd sxKw gh) : sxCtV sxKw gh ct73 := sxMeB_ok (cts := [ct72, ct62]) (cuts := cu73) (sp := []) 87 (by decide +kernel) hg (by decide) (by decide) (List.forall_mem_cons.mpr ⟨cv72 hg, (List.forall_mem_cons.mpr ⟨cv62 hg, (fun _ h => absurd h List.not_mem_nil)⟩)⟩)
/-- LotBeliefsModel.anyOf -/
def ct74 : sxCt := (216, 6, (3, [(1, .ofNat 0, .ofNat 4), (2, .ofNat 0, .ofNat 600)], [], [(0, .inl 78)], [], [(78, (0, .ofNat 8), .inr (false, (0, .ofNat 6))), (78, (0, .ofNat 5), .inr (false, (1, .ofNat 0))), (78, (0, .ofNat 4), .inr (false, (2, .ofNat 0)))], [], []), [(78, 5), (78, 6), (78, 7), (579, 5)], [
  (6, [(3, .negSucc 9223372036854775807, .ofNat 9223372036854775807), (4, .ofNat 0, .ofNat 600), (5, .ofNat 1, .ofNat 4)], [(1, 5, .ofNat 0), (2, 4, .ofNat 0), (5, 1, .ofNat 3)], [], [.inr (true, (3, .ofNat 0))], [(78, (0, .ofNat 4), .inr (false, (4, .ofNat 0))), (78, (0, .ofNat 5), .inr (false, (5, .ofNat 0))), (78, (0, .ofNat 8), .inr (false, (0, .ofNat 6)))], [], []), 
  (5, [(1, .ofNat 0, .ofNat 0), (2, .ofNat 0, .ofNat 599), (3, .negSucc 9223372036854775807, .ofNat 9223372036854775807), (4, .ofNat 1, .ofNat 600)], [(2, 4, .negSucc 0)], [], [.inr (true, (3, .ofNat 0))], [(78, (0, .ofNat 4), .inr (false, (4, .ofNat 0))), (78, (0, .ofNat 5), .inr (false, (0, .ofNat 0))), (78, (0, .ofNat 8), .inr (false, (0, .ofNat 6)))], [], [])], [], 0, 0)
def cu74 : List sxCu := [
  (5, (6, [(1, .ofNat 0, .ofNat 4), (2, .ofNat 0, .ofNat 600), (3, .negSucc 9223372036854775807, .ofNat 9223372036854775807), (4, .ofNat 0, .ofNat 600), (5, .ofNat 1, .ofNat 4)], [(1, 5, .ofNat 0), (2, 4, .ofNat 0), (5, 1, .ofNat 3)], [(0, .inl 78), (1, .inr (true, (3, .ofNat 0)))], [], [(78, (0, .ofNat 4), .inr (false, (4, .ofNat 0))), (78, (0, .ofNat 5), .inr (false, (5, .ofNat 0))), (78, (0, .ofNat 8), .inr (false, (0, .ofNat 6)))], [], []), ((0, 4, .ofNat 600), (0, 0, .ofNat 0), (0, 0, .ofNat 0)), 0, 0), 
  (5, (5, [(1, .ofNat 0, .ofNat 0), (2, .ofNat 0, .ofNat 599), (3, .negSucc 9223372036854775807, .ofNat 9223372036854775807), (4, .ofNat 1, .ofNat 600)], [(2, 4, .negSucc 0)], [(0, .inl 78), (1, .inr (true, (3, .ofNat 0)))], [], [(78, (0, .ofNat 4), .inr (false, (4, .ofNat 0))), (78, (0, .ofNat 5), .inr (false, (0, .ofNat 0))), (78, (0, .ofNat 8), .inr (false, (0, .ofNat 6)))], [], []), ((0, 4, .ofNat 600), (0, 0, .ofNat 0), (0, 0, .ofNat 0)), 0, 0)]
set_option maxRecDepth 1000000 in
theorem cv74 {gh : sxGh} (hg : sxGd sxKw gh) : sxCtV sxKw gh ct74 := sxMeB_ok (cts := [ct73, ct71]) (cuts := cu74) (sp := []) 100 (by decide +kernel) hg (by decide) (by decide) (List.forall_mem_cons.mpr ⟨cv73 hg, (List.forall_mem_cons.mpr ⟨cv71 hg, (fun _ h => absurd h List.not_mem_nil)⟩)⟩)
/-- LotBeliefsModel.isWord -/
def ct75 : sxCt := (207, 3, (4, [(1, .ofNat 0, .ofNat 4), (2, .ofNat 0, .ofNat 600), (3, .ofNat 0, .ofNat 600)], [], [(0, .inl 78), (1, .inr (false, (0, .ofNat 20))), (2, .inr (false, (0, .ofNat 8))), (3, .inr (false, (0, .ofNat 5))), (4, .inr (false, (0, .ofNat 14))), (5, .inr (false, (0, .ofNat 0))), (6, .inr (false, (0, .ofNat 0)))], [], [(78, (0, .ofNat 5), .inr (false, (1, .ofNat 0))), (78, (0, .ofNat 2), .inr (false, (2, .ofNat 0))), (78, (0, .ofNat 4), .inr (false, (3, .ofNat 0)))], [], []), [(78, 5), (579, 5)], [
  (5, [(1, .ofNat 0, .ofNat 0), (4, .ofNat 0, .ofNat 600)], [(3, 4, .ofNat 0)], [], [.inr (false, (0, .ofNat 0))], [(78, (0, .ofNat 2), .inr (false, (2, .ofNat 0))), (78, (0, .ofNat 4), .inr (false, (4, .ofNat 0))), (78, (0, .ofNat 5), .inr (false, (1, .ofNat 0)))], [], []), 
  (6, [(1, .ofNat 0, .ofNat 0), (2, .ofNat 1, .ofNat 600), (3, .ofNat 0, .ofNat 599), (4, .ofNat 0, .ofNat 599), (5, .ofNat 97, .ofNat 122)], [(3, 4, .ofNat 0), (4, 2, .negSucc 0)], [], [.inr (false, (0, .ofNat 1))], [(78, (0, .ofNat 2), .inr (false, (2, .ofNat 0))), (78, (0, .ofNat 4), .inr (false, (4, .ofNat 0))), (78, (0, .ofNat 5), .inr (false, (1, .ofNat 0))), (79, (4, .ofNat 0), .inr (false, (5, .ofNat 0)))], [], []), 
  (4, [(1, .ofNat 1, .ofNat 4)], [], [], [.inr (false, (0, .ofNat 0))], [(78, (0, .ofNat 2), .inr (false, (2, .ofNat 0))), (78, (0, .ofNat 4), .inr (false, (3, .ofNat 0))), (78, (0, .ofNat 5), .inr (false, (1, .ofNat 0)))], [], [])], [], 0, 0)
def cu75 : List sxCu := []
set_option maxRecDepth 1000000 in
theorem cv75 {gh : sxGh} (hg : sxGd sxKw gh) : sxCtV sxKw gh ct75 := sxMeB_ok (cts := [ct60]) (cuts := cu75) (sp := []) 197 (by decide +kernel) hg (by decide) (by decide) (List.forall_mem_cons.mpr ⟨cv60 hg, (fun _ h => absurd h List.not_mem_nil)⟩)
/-- LotBeliefsModel.takes -/
def ct76 : sxCt := (209, 4, (4, [(1, .ofNat 0, .ofNat 4), (2, .ofNat 0, .ofNat 600), (3, .ofNat 0, .ofNat 600)], [], [(0, .inl 78), (1, .inr (false, (0, .ofNat 20))), (2, .inr (false, (0, .ofNat 8))), (3, .inr (false, (0, .ofNat 5))), (4, .inr (false, (0, .ofNat 14))), (5, .inr (false, (0, .ofNat 0))), (6, .inr (false, (0, .ofNat 0)))], [], [(78, (0, .ofNat 5), .inr (false, (1, .ofNat 0))), (78, (0, .ofNat 2), .inr (false, (2, .ofNat 0))), (78, (0, .ofNat 4), .inr (false, (3, .ofNat 0)))], [], []), [(78, 5), (579, 5)], [
  (4, [(1, .ofNat 1, .ofNat 4)], [], [], [.inr (false, (0, .ofNat 0))], [(78, (0, .ofNat 2), .inr (false, (2, .ofNat 0))), (78, (0, .ofNat 4), .inr (false, (3, .ofNat 0))), (78, (0, .ofNat 5), .inr (false, (1, .ofNat 0)))], [], []), 
  (5, [(1, .ofNat 0, .ofNat 0), (2, .ofNat 1, .ofNat 600), (3, .ofNat 0, .ofNat 599), (4, .ofNat 1, .ofNat 600)], [(3, 4, .negSucc 0), (4, 2, .ofNat 0)], [], [.inr (false, (0, .ofNat 1))], [(78, (0, .ofNat 2), .inr (false, (2, .ofNat 0))), (78, (0, .ofNat 4), .inr (false, (4, .ofNat 0))), (78, (0, .ofNat 5), .inr (false, (1, .ofNat 0)))], [], []), 
  (5, [(1, .ofNat 0, .ofNat 0), (4, .ofNat 0, .ofNat 600)], [(3, 4, .ofNat 0)], [], [.inr (false, (0, .ofNat 0))], [(78, (0, .ofNat 2), .inr (false, (2, .ofNat 0))), (78, (0, .ofNat 4), .inr (false, (4, .ofNat 0))), (78, (0, .ofNat 5), .inr (false, (1, .ofNat 0)))], [], [])], [], 0, 0)
def cu76 : List sxCu := []
set_option maxRecDepth 1000000 in
theorem cv76 {gh : sxGh} (hg : sxGd sxKw gh) : sxCtV sxKw gh ct76 := sxMeB_ok (cts := [ct75, ct62]) (cuts := cu76) (sp := []) 87 (by decide +kernel) hg (by decide) (by decide) (List.forall_mem_cons.mpr ⟨cv75 hg, (List.forall_mem_cons.mpr ⟨cv62 hg, (fun _ h => absurd h List.not_mem_nil)⟩)⟩)
/-- LotBeliefsModel.oneOf -/
def ct77 : sxCt := (218, 7, (3, [(1, .ofNat 0, .ofNat 4), (2, .ofNat 0, .ofNat 600)], [], [(0, .inl 78)], [], [(78, (0, .ofNat 8), .inr (false, (0, .ofNat 5))), (78, (0, .ofNat 5), .inr (false, (1, .ofNat 0))), (78, (0, .ofNat 4), .inr (false, (2, .ofNat 0)))], [], []), [(78, 5), (78, 6), (78, 7), (78, 9), (579, 5)], [
  (6, [(3, .negSucc 9223372036854775807, .ofNat 9223372036854775807), (4, .ofNat 0, .ofNat 600), (5, .ofNat 1, .ofNat 4)], [(1, 5, .ofNat 0), (2, 4, .ofNat 0)], [], [.inr (true, (3, .ofNat 0))], [(78, (0, .ofNat 4), .inr (false, (4, .ofNat 0))), (78, (0, .ofNat 5), .inr (false, (5, .ofNat 0))), (78, (0, .ofNat 8), .inr (false, (0, .ofNat 5)))], [], []), 
  (5, [(1, .ofNat 0, .ofNat 0), (2, .ofNat 0, .ofNat 599), (3, .negSucc 9223372036854775807, .ofNat 9223372036854775807), (4, .ofNat 1, .ofNat 600)], [(2, 4, .negSucc 0)], [], [.inr (true, (3, .ofNat 0))], [(78, (0, .ofNat 4), .inr (false, (4, .ofNat 0))), (78, (0, .ofNat 5), .inr (false, (0, .ofNat 0))), (78, (0, .ofNat 8), .inr (false, (0, .ofNat 5)))], [], [])], [], 0, 0)
def cu77 : List sxCu := []
set_option maxRecDepth 1000000 in
theorem cv77 {gh : sxGh} (hg : sxGd sxKw gh) : sxCtV sxKw gh ct77 := sxMeB_ok (cts := [ct59, ct61, ct63, ct65, ct62, ct76, ct66, ct67, ct74, ct68]) (cuts := cu77) (sp := []) 1605 (by decide +kernel) hg (by decide) (by decide) (List.forall_mem_cons.mpr ⟨cv59 hg, (List.forall_mem_cons.mpr ⟨cv61 hg, (List.forall_mem_cons.mpr ⟨cv63 hg, (List.forall_mem_cons.mpr ⟨cv65 hg, (List.forall_mem_cons.mpr ⟨cv62 hg, (List.forall_mem_cons.mpr ⟨cv76 hg, (List.forall_mem_cons.mpr ⟨cv66 hg, (List.forall_mem_cons.mpr ⟨cv67 hg, (List.forall_mem_cons.mpr ⟨cv74 hg, (List.forall_mem_cons.mpr ⟨cv68 hg, (fun _ h => absurd h List.not_mem_nil)⟩)⟩)⟩)⟩)⟩)⟩)⟩)⟩)⟩)⟩)
/-- LotBeliefsModel.eachOf -/
def ct78 : sxCt := (217, 8, (3, [(1, .ofNat 0, .ofNat 4), (2, .ofNat 0, .ofNat 600)], [], [(0, .inl 78)], [], [(78, (0, .ofNat 8), .inr (false, (0, .ofNat 5))), (78, (0, .ofNat 5), .inr (false, (1, .ofNat 0))), (78, (0, .ofNat 4), .inr (false, (2, .ofNat 0)))], [], []), [(78, 5), (78, 6), (78, 7), (78, 9), (579, 5)], [
  (5, [(1, .ofNat 0, .ofNat 0), (2, .ofNat 0, .ofNat 599), (3, .negSucc 9223372036854775807, .ofNat 9223372036854775807), (4, .ofNat 1, .ofNat 600)], [(2, 4, .negSucc 0)], [], [.inr (true, (3, .ofNat 0))], [(78, (0, .ofNat 4), .inr (false, (4, .ofNat 0))), (78, (0, .ofNat 5), .inr (false, (0, .ofNat 0))), (78, (0, .ofNat 8), .inr (false, (0, .ofNat 5)))], [], []), 
  (6, [(3, .negSucc 9223372036854775807, .ofNat 9223372036854775807), (4, .ofNat 0, .ofNat 600), (5, .ofNat 1, .ofNat 4)], [(1, 5, .ofNat 0), (2, 4, .ofNat 0)], [], [.inr (true, (3, .ofNat 0))], [(78, (0, .ofNat 4), .inr (false, (4, .ofNat 0))), (78, (0, .ofNat 5), .inr (false, (5, .ofNat 0))), (78, (0, .ofNat 8), .inr (false, (0, .ofNat 5)))], [], [])], [], 0, 0)
def cu78 : List sxCu := [
  (5, (6, [(1, .ofNat 0, .ofNat 4), (2, .ofNat 0, .ofNat 600), (3, .negSucc 9223372036854775807, .ofNat 9223372036854775807), (4, .ofNat 0, .ofNat 600), (5, .ofNat 1, .ofNat 4)], [(1, 5, .ofNat 0), (2, 4, .ofNat 0)], [(0, .inl 78), (1, .inr (true, (3, .ofNat 0)))], [], [(78, (0, .ofNat 4), .inr (false, (4, .ofNat 0))), (78, (0, .ofNat 5), .inr (false, (5, .ofNat 0))), (78, (0, .ofNat 8), .inr (false, (0, .ofNat 5)))], [], []), ((0, 4, .ofNat 600), (0, 0, .ofNat 0), (0, 0, .ofNat 0)), 0, 0), 
  (5, (5, [(1, .ofNat 0, .ofNat 0), (2, .ofNat 0, .ofNat 599), (3, .negSucc 9223372036854775807, .ofNat 9223372036854775807), (4, .ofNat 1, .ofNat 600)], [(2, 4, .negSucc 0)], [(0, .inl 78), (1, .inr (true, (3, .ofNat 0)))], [], [(78, (0, .ofNat 4), .inr (false, (4, .ofNat 0))), (78, (0, .ofNat 5), .inr (false, (0, .ofNat 0))), (78, (0, .ofNat 8), .inr (false, (0, .ofNat 5)))], [], []), ((0, 4, .ofNat 600), (0, 0, .ofNat 0), (0, 0, .ofNat 0)), 0, 0)]
set_option maxRecDepth 1000000 in
theorem cv78 {gh : sxGh} (hg : sxGd sxKw gh) : sxCtV sxKw gh ct78 := sxMeB_ok (cts := [ct70, ct77]) (cuts := cu78) (sp := []) 100 (by decide +kernel) hg (by decide) (by decide) (List.forall_mem_cons.mpr ⟨cv70 hg, (List.forall_mem_cons.mpr ⟨cv77 hg, (fun _ h => absurd h List.not_mem_nil)⟩)⟩)
/-- LotBeliefsModel.anyOf -/
def ct79 : sxCt := (216, 9, (3, [(1, .ofNat 0, .ofNat 4), (2, .ofNat 0, .ofNat 600)], [], [(0, .inl 78)], [], [(78, (0, .ofNat 8), .inr (false, (0, .ofNat 5))), (78, (0, .ofNat 5), .inr (false, (1, .ofNat 0))), (78, (0, .ofNat 4), .inr (false, (2, .ofNat 0)))], [], []), [(78, 5), (78, 6), (78, 7), (78, 9), (579, 5)], [
  (6, [(3, .negSucc 9223372036854775807, .ofNat 9223372036854775807), (4, .ofNat 0, .ofNat 600), (5, .ofNat 1, .ofNat 4)], [(1, 5, .ofNat 0), (2, 4, .ofNat 0)], [], [.inr (true, (3, .ofNat 0))], [(78, (0, .ofNat 4), .inr (false, (4, .ofNat 0))), (78, (0, .ofNat 5), .inr (false, (5, .ofNat 0))), (78, (0, .ofNat 8), .inr (false, (0, .ofNat 5)))], [], []), 
  (5, [(1, .ofNat 0, .ofNat 0), (2, .ofNat 0, .ofNat 599), (3, .negSucc 9223372036854775807, .ofNat 9223372036854775807), (4, .ofNat 1, .ofNat 600)], [(2, 4, .negSucc 0)], [], [.inr (true, (3, .ofNat 0))], [(78, (0, .ofNat 4), .inr (false, (4, .ofNat 0))), (78, (0, .ofNat 5), .inr (false, (0, .ofNat 0))), (78, (0, .ofNat 8), .inr (false, (0, .ofNat 5)))], [], [])], [], 0, 0)
def cu79 : List sxCu := [
  (5, (6, [(1, .ofNat 0, .ofNat 4), (2, .ofNat 0, .ofNat 600), (3, .negSucc 9223372036854775807, .ofNat 9223372036854775807), (4, .ofNat 0, .ofNat 600), (5, .ofNat 1, .ofNat 4)], [(1, 5, .ofNat 0), (2, 4, .ofNat 0)], [(0, .inl 78), (1, .inr (true, (3, .ofNat 0)))], [], [(78, (0, .ofNat 4), .inr (false, (4, .ofNat 0))), (78, (0, .ofNat 5), .inr (false, (5, .ofNat 0))), (78, (0, .ofNat 8), .inr (false, (0, .ofNat 5)))], [], []), ((0, 4, .ofNat 600), (0, 0, .ofNat 0), (0, 0, .ofNat 0)), 0, 0), 
  (5, (5, [(1, .ofNat 0, .ofNat 0), (2, .ofNat 0, .ofNat 599), (3, .negSucc 9223372036854775807, .ofNat 9223372036854775807), (4, .ofNat 1, .ofNat 600)], [(2, 4, .negSucc 0)], [(0, .inl 78), (1, .inr (true, (3, .ofNat 0)))], [], [(78, (0, .ofNat 4), .inr (false, (4, .ofNat 0))), (78, (0, .ofNat 5), .inr (false, (0, .ofNat 0))), (78, (0, .ofNat 8), .inr (false, (0, .ofNat 5)))], [], []), ((0, 4, .ofNat 600), (0, 0, .ofNat 0), (0, 0, .ofNat 0)), 0, 0)]
set_option maxRecDepth 1000000 in
theorem cv79 {gh : sxGh} (hg : sxGd sxKw gh) : sxCtV sxKw gh ct79 := sxMeB_ok (cts := [ct73, ct78]) (cuts := cu79) (sp := []) 100 (by decide +kernel) hg (by decide) (by decide) (List.forall_mem_cons.mpr ⟨cv73 hg, (List.forall_mem_cons.mpr ⟨cv78 hg, (fun _ h => absurd h List.not_mem_nil)⟩)⟩)
/-- LotBeliefsModel.oneOf -/
def ct80 : sxCt := (218, 10, (3, [(1, .ofNat 0, .ofNat 4), (2, .ofNat 0, .ofNat 600)], [], [(0, .inl 78)], [], [(78, (0, .ofNat 8), .inr (false, (0, .ofNat 4))), (78, (0, .ofNat 5), .inr (false, (1, .ofNat 0))), (78, (0, .ofNat 4), .inr (false, (2, .ofNat 0)))], [], []), [(78, 5), (78, 6), (78, 7), (78, 9), (579, 5)], [
  (6, [(3, .negSucc 9223372036854775807, .ofNat 9223372036854775807), (4, .ofNat 0, .ofNat 600), (5, .ofNat 1, .ofNat 4)], [(1, 5, .ofNat 0), (2, 4, .ofNat 0)], [], [.inr (true, (3, .ofNat 0))], [(78, (0, .ofNat 4), .inr (false, (4, .ofNat 0))), (78, (0, .ofNat 5), .inr (false, (5, .ofNat 0))), (78, (0, .ofNat 8), .inr (false, (0, .ofNat 4)))], [], []), 
  (5, [(1, .ofNat 0, .ofNat 0), (2, .ofNat 0, .ofNat 599), (3, .negSucc 9223372036854775807, .ofNat 9223372036854775807), (4, .ofNat 1, .ofNat 600)], [(2, 4, .negSucc 0)], [], [.inr (true, (3, .ofNat 0))], [(78, (0, .ofNat 4), .inr (false, (4, .ofNat 0))), (78, (0, .ofNat 5), .inr (false, (0, .ofNat 0))), (78, (0, .ofNat 8), .inr (false, (0, .ofNat 4)))], [], [])], [], 0, 0)
def cu80 : List sxCu := []
set_option maxRecDepth 1000000 in
theorem cv80 {gh : sxGh} (hg : sxGd sxKw gh) : sxCtV sxKw gh ct80 := sxMeB_ok (cts := [ct59, ct61, ct63, ct65, ct62, ct76, ct66, ct67, ct79, ct77]) (cuts := cu80) (sp := []) 1605 (by decide +kernel) hg (by decide) (by decide) (List.forall_mem_cons.mpr ⟨cv59 hg, (List.forall_mem_cons.mpr ⟨cv61 hg, (List.forall_mem_cons.mpr ⟨cv63 hg, (List.forall_mem_cons.mpr ⟨cv65 hg, (List.forall_mem_cons.mpr ⟨cv62 hg, (List.forall_mem_cons.mpr ⟨cv76 hg, (List.forall_mem_cons.mpr ⟨cv66 hg, (List.forall_mem_cons.mpr ⟨cv67 hg, (List.forall_mem_cons.mpr ⟨cv79 hg, (List.forall_mem_cons.mpr ⟨cv77 hg, (fun _ h => absurd h List.not_mem_nil)⟩)⟩)⟩)⟩)⟩)⟩)⟩)⟩)⟩)⟩)
/-- LotBeliefsModel.eachOf -/
def ct81 : sxCt := (217, 11, (3, [(1, .ofNat 0, .ofNat 4), (2, .ofNat 0, .ofNat 600)], [], [(0, .inl 78)], [], [(78, (0, .ofNat 8), .inr (false, (0, .ofNat 4))), (78, (0, .ofNat 5), .inr (false, (1, .ofNat 0))), (78, (0, .ofNat 4), .inr (false, (2, .ofNat 0)))], [], []), [(78, 5), (78, 6), (78, 7), (78, 9), (579, 5)], [
  (5, [(1, .ofNat 0, .ofNat 0), (2, .ofNat 0, .ofNat 599), (3, .negSucc 9223372036854775807, .ofNat 9223372036854775807), (4, .ofNat 1, .ofNat 600)], [(2, 4, .negSucc 0)], [], [.inr (true, (3, .ofNat 0))], [(78, (0, .ofNat 4), .inr (false, (4, .ofNat 0))), (78, (0, .ofNat 5), .inr (false, (0, .ofNat 0))), (78, (0, .ofNat 8), .inr (false, (0, .ofNat 4)))], [], []), 
  (6, [(3, .negSucc 9223372036854775807, .ofNat 9223372036854775807), (4, .ofNat 0, .ofNat 600), (5, .ofNat 1, .ofNat 4)], [(1, 5, .ofNat 0), (2, 4, .ofNat 0)], [], [.inr (true, (3, .ofNat 0))], [(78, (0, .ofNat 4), .inr (false, (4, .ofNat 0))), (78, (0, .ofNat 5), .inr (false, (5, .ofNat 0))), (78, (0, .ofNat 8), .inr (false, (0, .ofNat 4)))], [], [])], [], 0, 0)
def cu81 : List sxCu := [
  (5, (6, [(1, .ofNat 0, .ofNat 4), (2, .ofNat 0, .ofNat 600), (3, .negSucc 9223372036854775807, .ofNat 9223372036854775807), (4, .ofNat 0, .ofNat 600), (5, .ofNat 1, .ofNat 4)], [(1, 5, .ofNat 0), (2, 4, .ofNat 0)], [(0, .inl 78), (1, .inr (true, (3, .ofNat 0)))], [], [(78, (0, .ofNat 4), .inr (false, (4, .ofNat 0))), (78, (0, .ofNat 5), .inr (false, (5, .ofNat 0))), (78, (0, .ofNat 8), .inr (false, (0, .ofNat 4)))], [], []), ((0, 4, .ofNat 600), (0, 0, .ofNat 0), (0, 0, .ofNat 0)), 0, 0), 
  (5, (5, [(1, .ofNat 0, .ofNat 0), (2, .ofNat 0, .ofNat 599), (3, .negSucc 9223372036854775807, .ofNat 9223372036854775807), (4, .ofNat 1, .ofNat 600)], [(2, 4, .negSucc 0)], [(0, .inl 78), (1, .inr (true, (3, .ofNat 0)))], [], [(78, (0, .ofNat 4), .inr (false, (4, .ofNat 0))), (78, (0, .ofNat 5), .inr (false, (0, .ofNat 0))), (78, (0, .ofNat 8), .inr (false, (0, .ofNat 4)))], [], []), ((0, 4, .ofNat 600), (0, 0, .ofNat 0), (0, 0, .ofNat 0)), 0, 0)]
set_option maxRecDepth 1000000 in
theorem cv81 {gh : sxGh} (hg : sxGd sxKw gh) : sxCtV sxKw gh ct81 := sxMeB_ok (cts := [ct70, ct80]) (cuts := cu81) (sp := []) 100 (by decide +kernel) hg (by decide) (by decide) (List.forall_mem_cons.mpr ⟨cv70 hg, (List.forall_mem_cons.mpr ⟨cv80 hg, (fun _ h => absurd h List.not_mem_nil)⟩)⟩)
/-- LotBeliefsModel.anyOf -/
def ct82 : sxCt := (216, 12, (3, [(1, .ofNat 0, .ofNat 4), (2, .ofNat 0, .ofNat 600)], [], [(0, .inl 78)], [], [(78, (0, .ofNat 8), .inr (false, (0, .ofNat 4))), (78, (0, .ofNat 5), .inr (false, (1, .ofNat 0))), (78, (0, .ofNat 4), .inr (false, (2, .ofNat 0)))], [], []), [(78, 5), (78, 6), (78, 7), (78, 9), (579, 5)], [
  (6, [(3, .negSucc 9223372036854775807, .ofNat 9223372036854775807), (4, .ofNat 0, .ofNat 600), (5, .ofNat 1, .ofNat 4)], [(1, 5, .ofNat 0), (2, 4, .ofNat 0)], [], [.inr (true, (3, .ofNat 0))], [(78, (0, .ofNat 4), .inr (false, (4, .ofNat 0))), (78, (0, .ofNat 5), .inr (false, (5, .ofNat 0))), (78, (0, .ofNat 8), .inr (false, (0, .ofNat 4)))], [], []), 
  (5, [(1, .ofNat 0, .ofNat 0), (2, .ofNat 0, .ofNat 599), (3, .negSucc 9223372036854775807, .ofNat 9223372036854775807), (4, .ofNat 1, .ofNat 600)], [(2, 4, .negSucc 0)], [], [.inr (true, (3, .ofNat 0))], [(78, (0, .ofNat 4), .inr (false, (4, .ofNat 0))), (78, (0, .ofNat 5), .inr (false, (0, .ofNat 0))), (78, (0, .ofNat 8), .inr (false, (0, .ofNat 4)))], [], [])], [], 0, 0)
def cu82 : List sxCu := [
  (5, (6, [(1, .ofNat 0, .ofNat 4), (2, .ofNat 0, .ofNat 600), (3, .negSucc 9223372036854775807, .ofNat 9223372036854775807), (4, .ofNat 0, .ofNat 600), (5, .ofNat 1, .ofNat 4)], [(1, 5, .ofNat 0), (2, 4, .ofNat 0)], [(0, .inl 78), (1, .inr (true, (3, .ofNat 0)))], [], [(78, (0, .ofNat 4), .inr (false, (4, .ofNat 0))), (78, (0, .ofNat 5), .inr (false, (5, .ofNat 0))), (78, (0, .ofNat 8), .inr (false, (0, .ofNat 4)))], [], []), ((0, 4, .ofNat 600), (0, 0, .ofNat 0), (0, 0, .ofNat 0)), 0, 0), 
  (5, (5, [(1, .ofNat 0, .ofNat 0), (2, .ofNat 0, .ofNat 599), (3, .negSucc 9223372036854775807, .ofNat 9223372036854775807), (4, .ofNat 1, .ofNat 600)], [(2, 4, .negSucc 0)], [(0, .inl 78), (1, .inr (true, (3, .ofNat 0)))], [], [(78, (0, .ofNat 4), .inr (false, (4, .ofNat 0))), (78, (0, .ofNat 5), .inr (false, (0, .ofNat 0))), (78, (0, .ofNat 8), .inr (false, (0, .ofNat 4)))], [], []), ((0, 4, .ofNat 600), (0, 0, .ofNat 0), (0, 0, .ofNat 0)), 0, 0)]
set_option maxRecDepth 1000000 in
theorem cv82 {gh : sxGh} (hg : sxGd sxKw gh) : sxCtV sxKw gh ct82 := sxMeB_ok (cts := [ct73, ct81]) (cuts := cu82) (sp := []) 100 (by decide +kernel) hg (by decide) (by decide) (List.forall_mem_cons.mpr ⟨cv73 hg, (List.forall_mem_cons.mpr ⟨cv81 hg, (fun _ h => absurd h List.not_mem_nil)⟩)⟩)
/-- LotBeliefsModel.oneOf -/
def ct83 : sxCt := (218, 13, (3, [(1, .ofNat 0, .ofNat 4), (2, .ofNat 0, .ofNat 600)], [], [(0, .inl 78)], [], [(78, (0, .ofNat 8), .inr (false, (0, .ofNat 3))), (78, (0, .ofNat 5), .inr (false, (1, .ofNat 0))), (78, (0, .ofNat 4), .inr (false, (2, .ofNat 0)))], [], []), [(78, 5), (78, 6), (78, 7), (78, 9), (579, 5)], [
  (6, [(3, .negSucc 9223372036854775807, .ofNat 9223372036854775807), (4, .ofNat 0, .ofNat 600), (5, .ofNat 1, .ofNat 4)], [(1, 5, .ofNat 0), (2, 4, .ofNat 0)], [], [.inr (true, (3, .ofNat 0))], [(78, (0, .ofNat 4), .inr (false, (4, .ofNat 0))), (78, (0, .ofNat 5), .inr (false, (5, .ofNat 0))), (78, (0, .ofNat 8), .inr (false, (0, .ofNat 3)))], [], []), 
  (5, [(1, .ofNat 0, .ofNat 0), (2, .ofNat 0, .ofNat 599), (3, .negSucc 9223372036854775807, .ofNat 9223372036854775807), (4, .ofNat 1, .ofNat 600)], [(2, 4, .negSucc 0)], [], [.inr (true, (3, .ofNat 0))], [(78, (0, .ofNat 4), .inr (false, (4, .ofNat 0))), (78, (0, .ofNat 5), .inr (false, (0, .ofNat 0))), (78, (0, .ofNat 8), .inr (false, (0, .ofNat 3)))], [], [])], [], 0, 0)
def cu83 : List sxCu := []
set_option maxRecDepth 1000000 in
theorem cv83 {gh : sxGh} (hg : sxGd sxKw gh) : sxCtV sxKw gh ct83 := sxMeB_ok (cts := [ct59, ct61, ct63, ct65, ct62, ct76, ct66, ct67, ct82, ct80]) (cuts := cu83) (sp := []) 1605 (by decide +kernel) hg (by decide) (by decide) (List.forall_mem_cons.mpr ⟨cv59 hg, (List.forall_mem_cons.mpr ⟨cv61 hg, (List.forall_mem_cons.mpr ⟨cv63 hg, (List.forall_mem_cons.mpr ⟨cv65 hg, (List.forall_mem_cons.mpr ⟨cv62 hg, (List.forall_mem_cons.mpr ⟨cv76 hg, (List.forall_mem_cons.mpr ⟨cv66 hg, (List.forall_mem_cons.mpr ⟨cv67 hg, (List.forall_mem_cons.mpr ⟨cv82 hg, (List.forall_mem_cons.mpr ⟨cv80 hg, (fun _ h => absurd h List.not_mem_nil)⟩)⟩)⟩)⟩)⟩)⟩)⟩)⟩)⟩)⟩)
/-- LotBeliefsModel.eachOf -/
def ct84 : sxCt := (217, 14, (3, [(1, .ofNat 0, .ofNat 4), (2, .ofNat 0, .ofNat 600)], [], [(0, .inl 78)], [], [(78, (0, .ofNat 8), .inr (false, (0, .ofNat 3))), (78, (0, .ofNat 5), .inr (false, (1, .ofNat 0))), (78, (0, .ofNat 4), .inr (false, (2, .ofNat 0)))], [], []), [(78, 5), (78, 6), (78, 7), (78, 9), (579, 5)], [
  (5, [(1, .ofNat 0, .ofNat 0), (2, .ofNat 0, .ofNat 599), (3, .negSucc 9223372036854775807, .ofNat 9223372036854775807), (4, .ofNat 1, .ofNat 600)], [(2, 4, .negSucc 0)], [], [.inr (true, (3, .ofNat 0))], [(78, (0, .ofNat 4), .inr (false, (4, .ofNat 0))), (78, (0, .ofNat 5), .inr (false, (0, .ofNat 0))), (78, (0, .ofNat 8), .inr (false, (0, .ofNat 3)))], [], []), 
  (6, [(3, .negSucc 9223372036854775807, .ofNat 9223372036854775807), (4, .ofNat 0, .ofNat 600), (5, .ofNat 1, .ofNat 4)], [(1, 5, .ofNat 0), (2, 4, .ofNat 0)], [], [.inr (true, (3, .ofNat 0))], [(78, (0, .ofNat 4), .inr (false, (4, .ofNat 0))), (78, (0, .ofNat 5), .inr (false, (5, .ofNat 0))), (78, (0, .ofNat 8), .inr (false, (0, .ofNat 3)))], [], [])], [], 0, 0)
def cu84 : List sxCu := [
  (5, (6, [(1, .ofNat 0, .ofNat 4), (2, .ofNat 0, .ofNat 600), (3, .negSucc 9223372036854775807, .ofNat 9223372036854775807), (4, .ofNat 0, .ofNat 600), (5, .ofNat 1, .ofNat 4)], [(1, 5, .ofNat 0), (2, 4, .ofNat 0)], [(0, .inl 78), (1, .inr (true, (3, .ofNat 0)))], [], [(78, (0, .ofNat 4), .inr (false, (4, .ofNat 0))), (78, (0, .ofNat 5), .inr (false, (5, .ofNat 0))), (78, (0, .ofNat 8), .inr (false, (0, .ofNat 3)))], [], []), ((0, 4, .ofNat 600), (0, 0, .ofNat 0), (0, 0, .ofNat 0)), 0, 0), 
  (5, (5, [(1, .ofNat 0, .ofNat 0), (2, .ofNat 0, .ofNat 599), (3, .negSucc 9223372036854775807, .ofNat 9223372036854775807), (4, .ofNat 1, .ofNat 600)], [(2, 4, .negSucc 0)], [(0, .inl 78), (1, .inr (true, (3, .ofNat 0)))], [], [(78, (0, .ofNat 4), .inr (false, (4, .ofNat 0))), (78, (0, .ofNat 5), .inr (false, (0, .ofNat 0))), (78, (0, .ofNat 8), .inr (false, (0, .ofNat 3)))], [], []), ((0, 4, .ofNat 600), (0, 0, .ofNat 0), (0, 0, .ofNat 0)), 0, 0)]
set_option maxRecDepth 1000000 in
theorem cv84 {gh : sxGh} (hg : sxGd sxKw gh) : sxCtV sxKw gh ct84 := sxMeB_ok (cts := [ct70, ct83]) (cuts := cu84) (sp := []) 100 (by decide +kernel) hg (by decide) (by decide) (List.forall_mem_cons.mpr ⟨cv70 hg, (List.forall_mem_cons.mpr ⟨cv83 hg, (fun _ h => absurd h List.not_mem_nil)⟩)⟩)
/-- LotBeliefsModel.anyOf -/
def ct85 : sxCt := (216, 15, (3, [(1, .ofNat 0, .ofNat 4), (2, .ofNat 0, .ofNat 600)], [], [(0, .inl 78)], [], [(78, (0, .ofNat 8), .inr (false, (0, .ofNat 3))), (78, (0, .ofNat 5), .inr (false, (1, .ofNat 0))), (78, (0, .ofNat 4), .inr (false, (2, .ofNat 0)))], [], []), [(78, 5), (78, 6), (78, 7), (78, 9), (579, 5)], [
  (6, [(3, .negSucc 9223372036854775807, .ofNat 9223372036854775807), (4, .ofNat 0, .ofNat 600), (5, .ofNat 1, .ofNat 4)], [(1, 5, .ofNat 0), (2, 4, .ofNat 0)], [], [.inr (true, (3, .ofNat 0))], [(78, (0, .ofNat 4), .inr (false, (4, .ofNat 0))), (78, (0, .ofNat 5), .inr (false, (5, .ofNat 0))), (78, (0, .ofNat 8), .inr (false, (0, .ofNat 3)))], [], []), 
  (5, [(1, .ofNat 0, .ofNat 0), (2, .ofNat 0, .ofNat 599), (3, .negSucc 9223372036854775807, .ofNat 9223372036854775807), (4, .ofNat 1, .ofNat 600)], [(2, 4, .negSucc 0)], [], [.inr (true, (3, .ofNat 0))], [(78, (0, .ofNat 4), .inr (false, (4, .ofNat 0))), (78, (0, .ofNat 5), .inr (false, (0, .ofNat 0))), (78, (0, .ofNat 8), .inr (false, (0, .ofNat 3)))], [], [])], [], 0, 0)
def cu85 : List sxCu := [
  (5, (6, [(1, .ofNat 0, .ofNat 4), (2, .ofNat 0, .ofNat 600), (3, .negSucc 9223372036854775807, .ofNat 9223372036854775807), (4, .ofNat 0, .ofNat 600), (5, .ofNat 1, .ofNat 4)], [(1, 5, .ofNat 0), (2, 4, .ofNat 0)], [(0, .inl 78), (1, .inr (true, (3, .ofNat 0)))], [], [(78, (0, .ofNat 4), .inr (false, (4, .ofNat 0))), (78, (0, .ofNat 5), .inr (false, (5, .ofNat 0))), (78, (0, .ofNat 8), .inr (false, (0, .ofNat 3)))], [], []), ((0, 4, .ofNat 600), (0, 0, .ofNat 0), (0, 0, .ofNat 0)), 0, 0), 
  (5, (5, [(1, .ofNat 0, .ofNat 0), (2, .ofNat 0, .ofNat 599), (3, .negSucc 9223372036854775807, .ofNat 9223372036854775807), (4, .ofNat 1, .ofNat 600)], [(2, 4, .negSucc 0)], [(0, .inl 78), (1, .inr (true, (3, .ofNat 0)))], [], [(78, (0, .ofNat 4), .inr (false, (4, .ofNat 0))), (78, (0, .ofNat 5), .inr (false, (0, .ofNat 0))), (78, (0, .ofNat 8), .inr (false, (0, .ofNat 3)))], [], []), ((0, 4, .ofNat 600), (0, 0, .ofNat 0), (0, 0, .ofNat 0)), 0, 0)]
set_option maxRecDepth 1000000 in
theorem cv85 {gh : sxGh} (hg : sxGd sxKw gh) : sxCtV sxKw gh ct85 := sxMeB_ok (cts := [ct73, ct84]) (cuts := cu85) (sp := []) 100 (by decide +kernel) hg (by decide) (by decide) (List.forall_mem_cons.mpr ⟨cv73 hg, (List.forall_mem_cons.mpr ⟨cv84 hg, (fun _ h => absurd h List.not_mem_nil)⟩)⟩)
end SXC
