/-! SX: contracts, by program -/
section SXC
/-- LotBeliefs.TongueReader.readSum -/
def ct187 : sxCt := (108, 13, (1, [], [], [(0, .inl 1), (1, .inl 23)], [], [(1, (0, .ofNat 7), .inr (false, (0, .ofNat 3)))], [], []), [(1, 4), (1, 5), (1, 6), (1, 7), (1, 8), (1, 9), (1, 10), (23, 3), (24, 0)], [
  (2, [(1, .ofNat 0, .ofNat 4)], [], [], [], [(1, (0, .ofNat 3), .inr (false, (1, .ofNat 0))), (1, (0, .ofNat 7), .inr (false, (0, .ofNat 3)))], [], [])], [], 0, 0)
def cu187 : List sxCu := [
  (7, (3, [(1, .ofNat 0, .ofNat 200), (2, .ofNat 0, .ofNat 4)], [], [(0, .inl 1), (1, .inl 23), (2, .inr (false, (1, .ofNat 0)))], [], [(1, (0, .ofNat 3), .inr (false, (2, .ofNat 0))), (1, (0, .ofNat 7), .inr (false, (0, .ofNat 3)))], [], []), ((0, 1, .ofNat 200), (0, 0, .ofNat 0), (0, 0, .ofNat 0)), 0, 0)]
set_option maxRecDepth 1000000 in
theorem cv187 {gh : sxGh} (hg : sxGd sxKw gh) : sxCtV sxKw gh ct187 := sxMeB_ok (cts := [ct2, ct186]) (cuts := cu187) (sp := []) 285 (by decide +kernel) hg (by decide) (by decide) (List.forall_mem_cons.mpr ⟨cv2 hg, (List.forall_mem_cons.mpr ⟨cv186 hg, (fun _ h => absurd h List.not_mem_nil)⟩)⟩)
/-- LotBeliefs.TongueReader.readRelation -/
def ct188 : sxCt := (107, 14, (1, [], [], [(0, .inl 1), (1, .inl 23)], [], [(1, (0, .ofNat 7), .inr (false, (0, .ofNat 3)))], [], []), [(1, 4), (1, 5), (1, 6), (1, 7), (1, 8), (1, 9), (1, 10), (23, 3), (24, 0)], [
  (3, [(1, .ofNat 0, .ofNat 4), (2, .ofNat 1, .ofNat 201)], [], [], [], [(1, (0, .ofNat 3), .inr (false, (1, .ofNat 0))), (1, (0, .ofNat 7), .inr (false, (0, .ofNat 3))), (23, (0, .ofNat 2), .inr (false, (2, .ofNat 0)))], [], [])], [], 0, 0)
def cu188 : List sxCu := []
set_option maxRecDepth 1000000 in
theorem cv188 {gh : sxGh} (hg : sxGd sxKw gh) : sxCtV sxKw gh ct188 := sxMeB_ok (cts := [ct2, ct187]) (cuts := cu188) (sp := []) 617 (by decide +kernel) hg (by decide) (by decide) (List.forall_mem_cons.mpr ⟨cv2 hg, (List.forall_mem_cons.mpr ⟨cv187 hg, (fun _ h => absurd h List.not_mem_nil)⟩)⟩)
/-- LotBeliefs.TongueReader.readPart -/
def ct189 : sxCt := (106, 15, (1, [], [], [(0, .inl 1), (1, .inl 23)], [], [(1, (0, .ofNat 7), .inr (false, (0, .ofNat 3)))], [], []), [(1, 4), (1, 5), (1, 6), (1, 7), (1, 8), (1, 9), (1, 10), (23, 3), (24, 0)], [
  (2, [(1, .ofNat 0, .ofNat 4)], [], [], [], [(1, (0, .ofNat 3), .inr (false, (1, .ofNat 0))), (1, (0, .ofNat 7), .inr (false, (0, .ofNat 3)))], [], [])], [], 0, 0)
def cu189 : List sxCu := []
set_option maxRecDepth 1000000 in
theorem cv189 {gh : sxGh} (hg : sxGd sxKw gh) : sxCtV sxKw gh ct189 := sxMeB_ok (cts := [ct2, ct150, ct184, ct182, ct188]) (cuts := cu189) (sp := []) 290 (by decide +kernel) hg (by decide) (by decide) (List.forall_mem_cons.mpr ⟨cv2 hg, (List.forall_mem_cons.mpr ⟨cv150 hg, (List.forall_mem_cons.mpr ⟨cv184 hg, (List.forall_mem_cons.mpr ⟨cv182 hg, (List.forall_mem_cons.mpr ⟨cv188 hg, (fun _ h => absurd h List.not_mem_nil)⟩)⟩)⟩)⟩)⟩)
/-- LotBeliefs.TongueReader.readEach -/
def ct190 : sxCt := (105, 16, (1, [], [], [(0, .inl 1), (1, .inl 23)], [], [(1, (0, .ofNat 7), .inr (false, (0, .ofNat 3)))], [], []), [(1, 4), (1, 5), (1, 6), (1, 7), (1, 8), (1, 9), (1, 10), (23, 3), (24, 0)], [
  (2, [(1, .ofNat 0, .ofNat 4)], [], [], [], [(1, (0, .ofNat 3), .inr (false, (1, .ofNat 0))), (1, (0, .ofNat 7), .inr (false, (0, .ofNat 3)))], [], [])], [], 0, 0)
def cu190 : List sxCu := [
  (7, (3, [(1, .ofNat 0, .ofNat 200), (2, .ofNat 0, .ofNat 4)], [], [(0, .inl 1), (1, .inl 23), (2, .inr (false, (1, .ofNat 0)))], [], [(1, (0, .ofNat 3), .inr (false, (2, .ofNat 0))), (1, (0, .ofNat 7), .inr (false, (0, .ofNat 3)))], [], []), ((0, 1, .ofNat 200), (0, 0, .ofNat 0), (0, 0, .ofNat 0)), 0, 0)]
set_option maxRecDepth 1000000 in
theorem cv190 {gh : sxGh} (hg : sxGd sxKw gh) : sxCtV sxKw gh ct190 := sxMeB_ok (cts := [ct2, ct167, ct189]) (cuts := cu190) (sp := []) 111 (by decide +kernel) hg (by decide) (by decide) (List.forall_mem_cons.mpr ⟨cv2 hg, (List.forall_mem_cons.mpr ⟨cv167 hg, (List.forall_mem_cons.mpr ⟨cv189 hg, (fun _ h => absurd h List.not_mem_nil)⟩)⟩)⟩)
/-- LotBeliefs.TongueReader.readEither -/
def ct191 : sxCt := (104, 17, (1, [], [], [(0, .inl 1), (1, .inl 23)], [], [(1, (0, .ofNat 7), .inr (false, (0, .ofNat 3)))], [], []), [(1, 4), (1, 5), (1, 6), (1, 7), (1, 8), (1, 9), (1, 10), (23, 3), (24, 0)], [
  (2, [(1, .ofNat 0, .ofNat 4)], [], [], [], [(1, (0, .ofNat 3), .inr (false, (1, .ofNat 0))), (1, (0, .ofNat 7), .inr (false, (0, .ofNat 3)))], [], [])], [], 0, 0)
def cu191 : List sxCu := [
  (7, (3, [(1, .ofNat 0, .ofNat 200), (2, .ofNat 0, .ofNat 4)], [], [(0, .inl 1), (1, .inl 23), (2, .inr (false, (1, .ofNat 0)))], [], [(1, (0, .ofNat 3), .inr (false, (2, .ofNat 0))), (1, (0, .ofNat 7), .inr (false, (0, .ofNat 3)))], [], []), ((0, 1, .ofNat 200), (0, 0, .ofNat 0), (0, 0, .ofNat 0)), 0, 0)]
set_option maxRecDepth 1000000 in
theorem cv191 {gh : sxGh} (hg : sxGd sxKw gh) : sxCtV sxKw gh ct191 := sxMeB_ok (cts := [ct2, ct169, ct190]) (cuts := cu191) (sp := []) 111 (by decide +kernel) hg (by decide) (by decide) (List.forall_mem_cons.mpr ⟨cv2 hg, (List.forall_mem_cons.mpr ⟨cv169 hg, (List.forall_mem_cons.mpr ⟨cv190 hg, (fun _ h => absurd h List.not_mem_nil)⟩)⟩)⟩)
/-- LotBeliefs.TongueReader.readValue -/
def ct192 : sxCt := (110, 14, (1, [], [], [(0, .inl 1), (1, .inl 23)], [], [(1, (0, .ofNat 7), .inr (false, (0, .ofNat 2)))], [], []), [(1, 4), (1, 5), (1, 6), (1, 7), (1, 8), (1, 9), (1, 10), (23, 3), (24, 0)], [
  (2, [(1, .ofNat 0, .ofNat 4)], [], [], [], [(1, (0, .ofNat 3), .inr (false, (1, .ofNat 0))), (1, (0, .ofNat 7), .inr (false, (0, .ofNat 2)))], [], [])], [], 0, 0)
def cu192 : List sxCu := []
set_option maxRecDepth 1000000 in
theorem cv192 {gh : sxGh} (hg : sxGd sxKw gh) : sxCtV sxKw gh ct192 := sxMeB_ok (cts := [ct2, ct187, ct161]) (cuts := cu192) (sp := []) 583 (by decide +kernel) hg (by decide) (by decide) (List.forall_mem_cons.mpr ⟨cv2 hg, (List.forall_mem_cons.mpr ⟨cv187 hg, (List.forall_mem_cons.mpr ⟨cv161 hg, (fun _ h => absurd h List.not_mem_nil)⟩)⟩)⟩)
/-- LotBeliefs.TongueReader.readProduct -/
def ct193 : sxCt := (109, 15, (1, [], [], [(0, .inl 1), (1, .inl 23)], [], [(1, (0, .ofNat 7), .inr (false, (0, .ofNat 2)))], [], []), [(1, 4), (1, 5), (1, 6), (1, 7), (1, 8), (1, 9), (1, 10), (23, 3), (24, 0)], [
  (2, [(1, .ofNat 0, .ofNat 4)], [], [], [], [(1, (0, .ofNat 3), .inr (false, (1, .ofNat 0))), (1, (0, .ofNat 7), .inr (false, (0, .ofNat 2)))], [], [])], [], 0, 0)
def cu193 : List sxCu := [
  (7, (3, [(1, .ofNat 0, .ofNat 200), (2, .ofNat 0, .ofNat 4)], [], [(0, .inl 1), (1, .inl 23), (2, .inr (false, (1, .ofNat 0)))], [], [(1, (0, .ofNat 3), .inr (false, (2, .ofNat 0))), (1, (0, .ofNat 7), .inr (false, (0, .ofNat 2)))], [], []), ((0, 1, .ofNat 200), (0, 0, .ofNat 0), (0, 0, .ofNat 0)), 0, 0)]
set_option maxRecDepth 1000000 in
theorem cv193 {gh : sxGh} (hg : sxGd sxKw gh) : sxCtV sxKw gh ct193 := sxMeB_ok (cts := [ct2, ct192]) (cuts := cu193) (sp := []) 127 (by decide +kernel) hg (by decide) (by decide) (List.forall_mem_cons.mpr ⟨cv2 hg, (List.forall_mem_cons.mpr ⟨cv192 hg, (fun _ h => absurd h List.not_mem_nil)⟩)⟩)
/-- LotBeliefs.TongueReader.readSum -/
def ct194 : sxCt := (108, 16, (1, [], [], [(0, .inl 1), (1, .inl 23)], [], [(1, (0, .ofNat 7), .inr (false, (0, .ofNat 2)))], [], []), [(1, 4), (1, 5), (1, 6), (1, 7), (1, 8), (1, 9), (1, 10), (23, 3), (24, 0)], [
  (2, [(1, .ofNat 0, .ofNat 4)], [], [], [], [(1, (0, .ofNat 3), .inr (false, (1, .ofNat 0))), (1, (0, .ofNat 7), .inr (false, (0, .ofNat 2)))], [], [])], [], 0, 0)
def cu194 : List sxCu := [
  (7, (3, [(1, .ofNat 0, .ofNat 200), (2, .ofNat 0, .ofNat 4)], [], [(0, .inl 1), (1, .inl 23), (2, .inr (false, (1, .ofNat 0)))], [], [(1, (0, .ofNat 3), .inr (false, (2, .ofNat 0))), (1, (0, .ofNat 7), .inr (false, (0, .ofNat 2)))], [], []), ((0, 1, .ofNat 200), (0, 0, .ofNat 0), (0, 0, .ofNat 0)), 0, 0)]
set_option maxRecDepth 1000000 in
theorem cv194 {gh : sxGh} (hg : sxGd sxKw gh) : sxCtV sxKw gh ct194 := sxMeB_ok (cts := [ct2, ct193]) (cuts := cu194) (sp := []) 285 (by decide +kernel) hg (by decide) (by decide) (List.forall_mem_cons.mpr ⟨cv2 hg, (List.forall_mem_cons.mpr ⟨cv193 hg, (fun _ h => absurd h List.not_mem_nil)⟩)⟩)
/-- LotBeliefs.TongueReader.readRelation -/
def ct195 : sxCt := (107, 17, (1, [], [], [(0, .inl 1), (1, .inl 23)], [], [(1, (0, .ofNat 7), .inr (false, (0, .ofNat 2)))], [], []), [(1, 4), (1, 5), (1, 6), (1, 7), (1, 8), (1, 9), (1, 10), (23, 3), (24, 0)], [
  (3, [(1, .ofNat 0, .ofNat 4), (2, .ofNat 1, .ofNat 201)], [], [], [], [(1, (0, .ofNat 3), .inr (false, (1, .ofNat 0))), (1, (0, .ofNat 7), .inr (false, (0, .ofNat 2))), (23, (0, .ofNat 2), .inr (false, (2, .ofNat 0)))], [], [])], [], 0, 0)
def cu195 : List sxCu := []
set_option maxRecDepth 1000000 in
theorem cv195 {gh : sxGh} (hg : sxGd sxKw gh) : sxCtV sxKw gh ct195 := sxMeB_ok (cts := [ct2, ct194]) (cuts := cu195) (sp := []) 617 (by decide +kernel) hg (by decide) (by decide) (List.forall_mem_cons.mpr ⟨cv2 hg, (List.forall_mem_cons.mpr ⟨cv194 hg, (fun _ h => absurd h List.not_mem_nil)⟩)⟩)
/-- LotBeliefs.TongueReader.readPart -/
def ct196 : sxCt := (106, 18, (1, [], [], [(0, .inl 1), (1, .inl 23)], [], [(1, (0, .ofNat 7), .inr (false, (0, .ofNat 2)))], [], []), [(1, 4), (1, 5), (1, 6), (1, 7), (1, 8), (1, 9), (1, 10), (23, 3), (24, 0)], [
  (2, [(1, .ofNat 0, .ofNat 4)], [], [], [], [(1, (0, .ofNat 3), .inr (false, (1, .ofNat 0))), (1, (0, .ofNat 7), .inr (false, (0, .ofNat 2)))], [], [])], [], 0, 0)
def cu196 : List sxCu := []
set_option maxRecDepth 1000000 in
theorem cv196 {gh : sxGh} (hg : sxGd sxKw gh) : sxCtV sxKw gh ct196 := sxMeB_ok (cts := [ct2, ct150, ct191, ct189, ct195]) (cuts := cu196) (sp := []) 290 (by decide +kernel) hg (by decide) (by decide) (List.forall_mem_cons.mpr ⟨cv2 hg, (List.forall_mem_cons.mpr ⟨cv150 hg, (List.forall_mem_cons.mpr ⟨cv191 hg, (List.forall_mem_cons.mpr ⟨cv189 hg, (List.forall_mem_cons.mpr ⟨cv195 hg, (fun _ h => absurd h List.not_mem_nil)⟩)⟩)⟩)⟩)⟩)
/-- LotBeliefs.TongueReader.readEach -/
def ct197 : sxCt := (105, 19, (1, [], [], [(0, .inl 1), (1, .inl 23)], [], [(1, (0, .ofNat 7), .inr (false, (0, .ofNat 2)))], [], []), [(1, 4), (1, 5), (1, 6), (1, 7), (1, 8), (1, 9), (1, 10), (23, 3), (24, 0)], [
  (2, [(1, .ofNat 0, .ofNat 4)], [], [], [], [(1, (0, .ofNat 3), .inr (false, (1, .ofNat 0))), (1, (0, .ofNat 7), .inr (false, (0, .ofNat 2)))], [], [])], [], 0, 0)
def cu197 : List sxCu := [
  (7, (3, [(1, .ofNat 0, .ofNat 200), (2, .ofNat 0, .ofNat 4)], [], [(0, .inl 1), (1, .inl 23), (2, .inr (false, (1, .ofNat 0)))], [], [(1, (0, .ofNat 3), .inr (false, (2, .ofNat 0))), (1, (0, .ofNat 7), .inr (false, (0, .ofNat 2)))], [], []), ((0, 1, .ofNat 200), (0, 0, .ofNat 0), (0, 0, .ofNat 0)), 0, 0)]
set_option maxRecDepth 1000000 in
theorem cv197 {gh : sxGh} (hg : sxGd sxKw gh) : sxCtV sxKw gh ct197 := sxMeB_ok (cts := [ct2, ct167, ct196]) (cuts := cu197) (sp := []) 111 (by decide +kernel) hg (by decide) (by decide) (List.forall_mem_cons.mpr ⟨cv2 hg, (List.forall_mem_cons.mpr ⟨cv167 hg, (List.forall_mem_cons.mpr ⟨cv196 hg, (fun _ h => absurd h List.not_mem_nil)⟩)⟩)⟩)
/-- LotBeliefs.TongueReader.readEither -/
def ct198 : sxCt := (104, 20, (1, [], [], [(0, .inl 1), (1, .inl 23)], [], [(1, (0, .ofNat 7), .inr (false, (0, .ofNat 2)))], [], []), [(1, 4), (1, 5), (1, 6), (1, 7), (1, 8), (1, 9), (1, 10), (23, 3), (24, 0)], [
  (2, [(1, .ofNat 0, .ofNat 4)], [], [], [], [(1, (0, .ofNat 3), .inr (false, (1, .ofNat 0))), (1, (0, .ofNat 7), .inr (false, (0, .ofNat 2)))], [], [])], [], 0, 0)
def cu198 : List sxCu := [
  (7, (3, [(1, .ofNat 0, .ofNat 200), (2, .ofNat 0, .ofNat 4)], [], [(0, .inl 1), (1, .inl 23), (2, .inr (false, (1, .ofNat 0)))], [], [(1, (0, .ofNat 3), .inr (false, (2, .ofNat 0))), (1, (0, .ofNat 7), .inr (false, (0, .ofNat 2)))], [], []), ((0, 1, .ofNat 200), (0, 0, .ofNat 0), (0, 0, .ofNat 0)), 0, 0)]
set_option maxRecDepth 1000000 in
theorem cv198 {gh : sxGh} (hg : sxGd sxKw gh) : sxCtV sxKw gh ct198 := sxMeB_ok (cts := [ct2, ct169, ct197]) (cuts := cu198) (sp := []) 111 (by decide +kernel) hg (by decide) (by decide) (List.forall_mem_cons.mpr ⟨cv2 hg, (List.forall_mem_cons.mpr ⟨cv169 hg, (List.forall_mem_cons.mpr ⟨cv197 hg, (fun _ h => absurd h List.not_mem_nil)⟩)⟩)⟩)
/-- LotBeliefs.TongueReader.readValue -/
def ct199 : sxCt := (110, 17, (1, [], [], [(0, .inl 1), (1, .inl 23)], [], [(1, (0, .ofNat 7), .inr (false, (0, .ofNat 1)))], [], []), [(1, 4), (1, 5), (1, 6), (1, 7), (1, 8), (1, 9), (1, 10), (23, 3), (24, 0)], [
  (2, [(1, .ofNat 0, .ofNat 4)], [], [], [], [(1, (0, .ofNat 3), .inr (false, (1, .ofNat 0))), (1, (0, .ofNat 7), .inr (false, (0, .ofNat 1)))], [], [])], [], 0, 0)
def cu199 : List sxCu := []
set_option maxRecDepth 1000000 in
theorem cv199 {gh : sxGh} (hg : sxGd sxKw gh) : sxCtV sxKw gh ct199 := sxMeB_ok (cts := [ct2, ct194, ct161]) (cuts := cu199) (sp := []) 583 (by decide +kernel) hg (by decide) (by decide) (List.forall_mem_cons.mpr ⟨cv2 hg, (List.forall_mem_cons.mpr ⟨cv194 hg, (List.forall_mem_cons.mpr ⟨cv161 hg, (fun _ h => absurd h List.not_mem_nil)⟩)⟩)⟩)
/-- LotBeliefs.TongueReader.readProduct -/
def ct200 : sxCt := (109, 18, (1, [], [], [(0, .inl 1), (1, .inl 23)], [], [(1, (0, .ofNat 7), .inr (false, (0, .ofNat 1)))], [], []), [(1, 4), (1, 5), (1, 6), (1, 7), (1, 8), (1, 9), (1, 10), (23, 3), (24, 0)], [
  (2, [(1, .ofNat 0, .ofNat 4)], [], [], [], [(1, (0, .ofNat 3), .inr (false, (1, .ofNat 0))), (1, (0, .ofNat 7), .inr (false, (0, .ofNat 1)))], [], [])], [], 0, 0)
def cu200 : List sxCu := [
  (7, (3, [(1, .ofNat 0, .ofNat 200), (2, .ofNat 0, .ofNat 4)], [], [(0, .inl 1), (1, .inl 23), (2, .inr (false, (1, .ofNat 0)))], [], [(1, (0, .ofNat 3), .inr (false, (2, .ofNat 0))), (1, (0, .ofNat 7), .inr (false, (0, .ofNat 1)))], [], []), ((0, 1, .ofNat 200), (0, 0, .ofNat 0), (0, 0, .ofNat 0)), 0, 0)]
set_option maxRecDepth 1000000 in
theorem cv200 {gh : sxGh} (hg : sxGd sxKw gh) : sxCtV sxKw gh ct200 := sxMeB_ok (cts := [ct2, ct199]) (cuts := cu200) (sp := []) 127 (by decide +kernel) hg (by decide) (by decide) (List.forall_mem_cons.mpr ⟨cv2 hg, (List.forall_mem_cons.mpr ⟨cv199 hg, (fun _ h => absurd h List.not_mem_nil)⟩)⟩)
/-- LotBeliefs.TongueReader.readSum -/
def ct201 : sxCt := (108, 19, (1, [], [], [(0, .inl 1), (1, .inl 23)], [], [(1, (0, .ofNat 7), .inr (false, (0, .ofNat 1)))], [], []), [(1, 4), (1, 5), (1, 6), (1, 7), (1, 8), (1, 9), (1, 10), (23, 3), (24, 0)], [
  (2, [(1, .ofNat 0, .ofNat 4)], [], [], [], [(1, (0, .ofNat 3), .inr (false, (1, .ofNat 0))), (1, (0, .ofNat 7), .inr (false, (0, .ofNat 1)))], [], [])], [], 0, 0)
def cu201 : List sxCu := [
  (7, (3, [(1, .ofNat 0, .ofNat 200), (2, .ofNat 0, .ofNat 4)], [], [(0, .inl 1), (1, .inl 23), (2, .inr (false, (1, .ofNat 0)))], [], [(1, (0, .ofNat 3), .inr (false, (2, .ofNat 0))), (1, (0, .ofNat 7), .inr (false, (0, .ofNat 1)))], [], []), ((0, 1, .ofNat 200), (0, 0, .ofNat 0), (0, 0, .ofNat 0)), 0, 0)]
set_option maxRecDepth 1000000 in
theorem cv201 {gh : sxGh} (hg : sxGd sxKw gh) : sxCtV sxKw gh ct201 := sxMeB_ok (cts := [ct2, ct200]) (cuts := cu201) (sp := []) 285 (by decide +kernel) hg (by decide) (by decide) (List.forall_mem_cons.mpr ⟨cv2 hg, (List.forall_mem_cons.mpr ⟨cv200 hg, (fun _ h => absurd h List.not_mem_nil)⟩)⟩)
/-- LotBeliefs.TongueReader.readRelation -/
def ct202 : sxCt := (107, 20, (1, [], [], [(0, .inl 1), (1, .inl 23)], [], [(1, (0, .ofNat 7), .inr (false, (0, .ofNat 1)))], [], []), [(1, 4), (1, 5), (1, 6), (1, 7), (1, 8), (1, 9), (1, 10), (23, 3), (24, 0)], [
  (3, [(1, .ofNat 0, .ofNat 4), (2, .ofNat 1, .ofNat 201)], [], [], [], [(1, (0, .ofNat 3), .inr (false, (1, .ofNat 0))), (1, (0, .ofNat 7), .inr (false, (0, .ofNat 1))), (23, (0, .ofNat 2), .inr (false, (2, .ofNat 0)))], [], [])], [], 0, 0)
def cu202 : List sxCu := []
set_option maxRecDepth 1000000 in
theorem cv202 {gh : sxGh} (hg : sxGd sxKw gh) : sxCtV sxKw gh ct202 := sxMeB_ok (cts := [ct2, ct201]) (cuts := cu202) (sp := []) 617 (by decide +kernel) hg (by decide) (by decide) (List.forall_mem_cons.mpr ⟨cv2 hg, (List.forall_mem_cons.mpr ⟨cv201 hg, (fun _ h => absurd h List.not_mem_nil)⟩)⟩)
/-- LotBeliefs.TongueReader.readPart -/
def ct203 : sxCt := (106, 21, (1, [], [], [(0, .inl 1), (1, .inl 23)], [], [(1, (0, .ofNat 7), .inr (false, (0, .ofNat 1)))], [], []), [(1, 4), (1, 5), (1, 6), (1, 7), (1, 8), (1, 9), (1, 10), (23, 3), (24, 0)], [
  (2, [(1, .ofNat 0, .ofNat 4)], [], [], [], [(1, (0, .ofNat 3), .inr (false, (1, .ofNat 0))), (1, (0, .ofNat 7), .inr (false, (0, .ofNat 1)))], [], [])], [], 0, 0)
def cu203 : List sxCu := []
set_option maxRecDepth 1000000 in
theorem cv203 {gh : sxGh} (hg : sxGd sxKw gh) : sxCtV sxKw gh ct203 := sxMeB_ok (cts := [ct2, ct150, ct198, ct196, ct202]) (cuts := cu203) (sp := []) 290 (by decide +kernel) hg (by decide) (by decide) (List.forall_mem_cons.mpr ⟨cv2 hg, (List.forall_mem_cons.mpr ⟨cv150 hg, (List.forall_mem_cons.mpr ⟨cv198 hg, (List.forall_mem_cons.mpr ⟨cv196 hg, (List.forall_mem_cons.mpr ⟨cv202 hg, (fun _ h => absurd h List.not_mem_nil)⟩)⟩)⟩)⟩)⟩)
/-- LotBeliefs.TongueReader.readEach -/
def ct204 : sxCt := (105, 22, (1, [], [], [(0, .inl 1), (1, .inl 23)], [], [(1, (0, .ofNat 7), .inr (false, (0, .ofNat 1)))], [], []), [(1, 4), (1, 5), (1, 6), (1, 7), (1, 8), (1, 9), (1, 10), (23, 3), (24, 0)], [
  (2, [(1, .ofNat 0, .ofNat 4)], [], [], [], [(1, (0, .ofNat 3), .inr (false, (1, .ofNat 0))), (1, (0, .ofNat 7), .inr (false, (0, .ofNat 1)))], [], [])], [], 0, 0)
def cu204 : List sxCu := [
  (7, (3, [(1, .ofNat 0, .ofNat 200), (2, .ofNat 0, .ofNat 4)], [], [(0, .inl 1), (1, .inl 23), (2, .inr (false, (1, .ofNat 0)))], [], [(1, (0, .ofNat 3), .inr (false, (2, .ofNat 0))), (1, (0, .ofNat 7), .inr (false, (0, .ofNat 1)))], [], []), ((0, 1, .ofNat 200), (0, 0, .ofNat 0), (0, 0, .ofNat 0)), 0, 0)]
set_option maxRecDepth 1000000 in
theorem cv204 {gh : sxGh} (hg : sxGd sxKw gh) : sxCtV sxKw gh ct204 := sxMeB_ok (cts := [ct2, ct167, ct203]) (cuts := cu204) (sp := []) 111 (by decide +kernel) hg (by decide) (by decide) (List.forall_mem_cons.mpr ⟨cv2 hg, (List.forall_mem_cons.mpr ⟨cv167 hg, (List.forall_mem_cons.mpr ⟨cv203 hg, (fun _ h => absurd h List.not_mem_nil)⟩)⟩)⟩)
/-- LotBeliefs.TongueReader.readEither -/
def ct205 : sxCt := (104, 23, (1, [], [], [(0, .inl 1), (1, .inl 23)], [], [(1, (0, .ofNat 7), .inr (false, (0, .ofNat 1)))], [], []), [(1, 4), (1, 5), (1, 6), (1, 7), (1, 8), (1, 9), (1, 10), (23, 3), (24, 0)], [
  (2, [(1, .ofNat 0, .ofNat 4)], [], [], [], [(1, (0, .ofNat 3), .inr (false, (1, .ofNat 0))), (1, (0, .ofNat 7), .inr (false, (0, .ofNat 1)))], [], [])], [], 0, 0)
def cu205 : List sxCu := [
  (7, (3, [(1, .ofNat 0, .ofNat 200), (2, .ofNat 0, .ofNat 4)], [], [(0, .inl 1), (1, .inl 23), (2, .inr (false, (1, .ofNat 0)))], [], [(1, (0, .ofNat 3), .inr (false, (2, .ofNat 0))), (1, (0, .ofNat 7), .inr (false, (0, .ofNat 1)))], [], []), ((0, 1, .ofNat 200), (0, 0, .ofNat 0), (0, 0, .ofNat 0)), 0, 0)]
set_option maxRecDepth 1000000 in
theorem cv205 {gh : sxGh} (hg : sxGd sxKw gh) : sxCtV sxKw gh ct205 := sxMeB_ok (cts := [ct2, ct169, ct204]) (cuts := cu205) (sp := []) 111 (by decide +kernel) hg (by decide) (by decide) (List.forall_mem_cons.mpr ⟨cv2 hg, (List.forall_mem_cons.mpr ⟨cv169 hg, (List.forall_mem_cons.mpr ⟨cv204 hg, (fun _ h => absurd h List.not_mem_nil)⟩)⟩)⟩)
/-- LotBeliefs.TongueReader.readValue -/
def ct206 : sxCt := (110, 20, (1, [], [], [(0, .inl 1), (1, .inl 23)], [], [(1, (0, .ofNat 7), .inr (false, (0, .ofNat 0)))], [], []), [(1, 4), (1, 5), (1, 6), (1, 7), (1, 8), (1, 9), (1, 10), (23, 3), (24, 0)], [
  (2, [(1, .ofNat 0, .ofNat 4)], [], [], [], [(1, (0, .ofNat 3), .inr (false, (1, .ofNat 0))), (1, (0, .ofNat 7), .inr (false, (0, .ofNat 0)))], [], [])], [], 0, 0)
def cu206 : List sxCu := []
set_option maxRecDepth 1000000 in
theorem cv206 {gh : sxGh} (hg : sxGd sxKw gh) : sxCtV sxKw gh ct206 := sxMeB_ok (cts := [ct2, ct201, ct161]) (cuts := cu206) (sp := []) 583 (by decide +kernel) hg (by decide) (by decide) (List.forall_mem_cons.mpr ⟨cv2 hg, (List.forall_mem_cons.mpr ⟨cv201 hg, (List.forall_mem_cons.mpr ⟨cv161 hg, (fun _ h => absurd h List.not_mem_nil)⟩)⟩)⟩)
/-- LotBeliefs.TongueReader.readProduct -/
def ct207 : sxCt := (109, 21, (1, [], [], [(0, .inl 1), (1, .inl 23)], [], [(1, (0, .ofNat 7), .inr (false, (0, .ofNat 0)))], [], []), [(1, 4), (1, 5), (1, 6), (1, 7), (1, 8), (1, 9), (1, 10), (23, 3), (24, 0)], [
  (2, [(1, .ofNat 0, .ofNat 4)], [], [], [], [(1, (0, .ofNat 3), .inr (false, (1, .ofNat 0))), (1, (0, .ofNat 7), .inr (false, (0, .ofNat 0)))], [], [])], [], 0, 0)
def cu207 : List sxCu := [
  (7, (3, [(1, .ofNat 0, .ofNat 200), (2, .ofNat 0, .ofNat 4)], [], [(0, .inl 1), (1, .inl 23), (2, .inr (false, (1, .ofNat 0)))], [], [(1, (0, .ofNat 3), .inr (false, (2, .ofNat 0))), (1, (0, .ofNat 7), .inr (false, (0, .ofNat 0)))], [], []), ((0, 1, .ofNat 200), (0, 0, .ofNat 0), (0, 0, .ofNat 0)), 0, 0)]
set_option maxRecDepth 1000000 in
theorem cv207 {gh : sxGh} (hg : sxGd sxKw gh) : sxCtV sxKw gh ct207 := sxMeB_ok (cts := [ct2, ct206]) (cuts := cu207) (sp := []) 127 (by decide +kernel) hg (by decide) (by decide) (List.forall_mem_cons.mpr ⟨cv2 hg, (List.forall_mem_cons.mpr ⟨cv206 hg, (fun _ h => absurd h List.not_mem_nil)⟩)⟩)
/-- LotBeliefs.TongueReader.readSum -/
def ct208 : sxCt := (108, 22, (1, [], [], [(0, .inl 1), (1, .inl 23)], [], [(1, (0, .ofNat 7), .inr (false, (0, .ofNat 0)))], [], []), [(1, 4), (1, 5), (1, 6), (1, 7), (1, 8), (1, 9), (1, 10), (23, 3), (24, 0)], [
  (2, [(1, .ofNat 0, .ofNat 4)], [], [], [], [(1, (0, .ofNat 3), .inr (false, (1, .ofNat 0))), (1, (0, .ofNat 7), .inr (false, (0, .ofNat 0)))], [], [])], [], 0, 0)
def cu208 : List sxCu := [
  (7, (3, [(1, .ofNat 0, .ofNat 200), (2, .ofNat 0, .ofNat 4)], [], [(0, .inl 1), (1, .inl 23), (2, .inr (false, (1, .ofNat 0)))], [], [(1, (0, .ofNat 3), .inr (false, (2, .ofNat 0))), (1, (0, .ofNat 7), .inr (false, (0, .ofNat 0)))], [], []), ((0, 1, .ofNat 200), (0, 0, .ofNat 0), (0, 0, .ofNat 0)), 0, 0)]
set_option maxRecDepth 1000000 in
theorem cv208 {gh : sxGh} (hg : sxGd sxKw gh) : sxCtV sxKw gh ct208 := sxMeB_ok (cts := [ct2, ct207]) (cuts := cu208) (sp := []) 285 (by decide +kernel) hg (by decide) (by decide) (List.forall_mem_cons.mpr ⟨cv2 hg, (List.forall_mem_cons.mpr ⟨cv207 hg, (fun _ h => absurd h List.not_mem_nil)⟩)⟩)
/-- LotBeliefs.TongueReader.readRelation -/
def ct209 : sxCt := (107, 23, (1, [], [], [(0, .inl 1), (1, .inl 23)], [], [(1, (0, .ofNat 7), .inr (false, (0, .ofNat 0)))], [], []), [(1, 4), (1, 5), (1, 6), (1, 7), (1, 8), (1, 9), (1, 10), (23, 3), (24, 0)], [
  (3, [(1, .ofNat 0, .ofNat 4), (2, .ofNat 1, .ofNat 201)], [], [], [], [(1, (0, .ofNat 3), .inr (false, (1, .ofNat 0))), (1, (0, .ofNat 7), .inr (false, (0, .ofNat 0))), (23, (0, .ofNat 2), .inr (false, (2, .ofNat 0)))], [], [])], [], 0, 0)
def cu209 : List sxCu := []
set_option maxRecDepth 1000000 in
theorem cv209 {gh : sxGh} (hg : sxGd sxKw gh) : sxCtV sxKw gh ct209 := sxMeB_ok (cts := [ct2, ct208]) (cuts := cu209) (sp := []) 617 (by decide +kernel) hg (by decide) (by decide) (List.forall_mem_cons.mpr ⟨cv2 hg, (List.forall_mem_cons.mpr ⟨cv208 hg, (fun _ h => absurd h List.not_mem_nil)⟩)⟩)
/-- LotBeliefs.TongueReader.readPart -/
def ct210 : sxCt := (106, 24, (1, [], [], [(0, .inl 1), (1, .inl 23)], [], [(1, (0, .ofNat 7), .inr (false, (0, .ofNat 0)))], [], []), [(1, 4), (1, 5), (1, 6), (1, 7), (1, 8), (1, 9), (1, 10), (23, 3), (24, 0)], [
  (2, [(1, .ofNat 0, .ofNat 4)], [], [], [], [(1, (0, .ofNat 3), .inr (false, (1, .ofNat 0))), (1, (0, .ofNat 7), .inr (false, (0, .ofNat 0)))], [], [])], [], 0, 0)
def cu210 : List sxCu := []
set_option maxRecDepth 1000000 in
theorem cv210 {gh : sxGh} (hg : sxGd sxKw gh) : sxCtV sxKw gh ct210 := sxMeB_ok (cts := [ct2, ct150, ct205, ct203, ct209]) (cuts := cu210) (sp := []) 290 (by decide +kernel) hg (by decide) (by decide) (List.forall_mem_cons.mpr ⟨cv2 hg, (List.forall_mem_cons.mpr ⟨cv150 hg, (List.forall_mem_cons.mpr ⟨cv205 hg, (List.forall_mem_cons.mpr ⟨cv203 hg, (List.forall_mem_cons.mpr ⟨cv209 hg, (fun _ h => absurd h List.not_mem_nil)⟩)⟩)⟩)⟩)⟩)
/-- LotBeliefs.TongueReader.readEach -/
def ct211 : sxCt := (105, 25, (1, [], [], [(0, .inl 1), (1, .inl 23)], [], [(1, (0, .ofNat 7), .inr (false, (0, .ofNat 0)))], [], []), [(1, 4), (1, 5), (1, 6), (1, 7), (1, 8), (1, 9), (1, 10), (23, 3), (24, 0)], [
  (2, [(1, .ofNat 0, .ofNat 4)], [], [], [], [(1, (0, .ofNat 3), .inr (false, (1, .ofNat 0))), (1, (0, .ofNat 7), .inr (false, (0, .ofNat 0)))], [], [])], [], 0, 0)
def cu211 : List sxCu := [
  (7, (3, [(1, .ofNat 0, .ofNat 200), (2, .ofNat 0, .ofNat 4)], [], [(0, .inl 1), (1, .inl 23), (2, .inr (false, (1, .ofNat 0)))], [], [(1, (0, .ofNat 3), .inr (false, (2, .ofNat 0))), (1, (0, .ofNat 7), .inr (false, (0, .ofNat 0)))], [], []), ((0, 1, .ofNat 200), (0, 0, .ofNat 0), (0, 0, .ofNat 0)), 0, 0)]
set_option maxRecDepth 1000000 in
theorem cv211 {gh : sxGh} (hg : sxGd sxKw gh) : sxCtV sxKw gh ct211 := sxMeB_ok (cts := [ct2, ct167, ct210]) (cuts := cu211) (sp := []) 111 (by decide +kernel) hg (by decide) (by decide) (List.forall_mem_cons.mpr ⟨cv2 hg, (List.forall_mem_cons.mpr ⟨cv167 hg, (List.forall_mem_cons.mpr ⟨cv210 hg, (fun _ h => absurd h List.not_mem_nil)⟩)⟩)⟩)
/-- LotBeliefs.TongueReader.readEither -/
def ct212 : sxCt := (104, 26, (1, [], [], [(0, .inl 1), (1, .inl 23)], [], [(1, (0, .ofNat 7), .inr (false, (0, .ofNat 0)))], [], []), [(1, 4), (1, 5), (1, 6), (1, 7), (1, 8), (1, 9), (1, 10), (23, 3), (24, 0)], [
  (2, [(1, .ofNat 0, .ofNat 4)], [], [], [], [(1, (0, .ofNat 3), .inr (false, (1, .ofNat 0))), (1, (0, .ofNat 7), .inr (false, (0, .ofNat 0)))], [], [])], [], 0, 0)
def cu212 : List sxCu := [
  (7, (3, [(1, .ofNat 0, .ofNat 200), (2, .ofNat 0, .ofNat 4)], [], [(0, .inl 1), (1, .inl 23), (2, .inr (false, (1, .ofNat 0)))], [], [(1, (0, .ofNat 3), .inr (false, (2, .ofNat 0))), (1, (0, .ofNat 7), .inr (false, (0, .ofNat 0)))], [], []), ((0, 1, .ofNat 200), (0, 0, .ofNat 0), (0, 0, .ofNat 0)), 0, 0)]
set_option maxRecDepth 1000000 in
theorem cv212 {gh : sxGh} (hg : sxGd sxKw gh) : sxCtV sxKw gh ct212 := sxMeB_ok (cts := [ct2, ct169, ct211]) (cuts := cu212) (sp := []) 111 (by decide +kernel) hg (by decide) (by decide) (List.forall_mem_cons.mpr ⟨cv2 hg, (List.forall_mem_cons.mpr ⟨cv169 hg, (List.forall_mem_cons.mpr ⟨cv211 hg, (fun _ h => absurd h List.not_mem_nil)⟩)⟩)⟩)
/-- LotBeliefs.Tape.isWord -/
def ct213 : sxCt := (85, 0, (1, [], [], [(0, .inl 1), (1, .inl 1000013)], [], [], [], []), [], [
  (1, [], [], [], [.inr (false, (0, .ofNat 0))], [], [], []), 
  (1, [], [], [], [.inr (false, (0, .ofNat 1))], [], [], [])], [], 0, 0)
def cu213 : List sxCu := []
set_option maxRecDepth 1000000 in
theorem cv213 {gh : sxGh} (hg : sxGd sxKw gh) : sxCtV sxKw gh ct213 := sxMeB_ok (cts := []) (cuts := cu213) (sp := []) 174 (by decide +kernel) hg (by decide) (by decide) (fun _ h => absurd h List.not_mem_nil)
/-- LotBeliefs.Tape.isWord -/
def ct214 : sxCt := (85, 0, (1, [], [], [(0, .inl 1), (1, .inl 1000014)], [], [], [], []), [], [
  (1, [], [], [], [.inr (false, (0, .ofNat 0))], [], [], []), 
  (1, [], [], [], [.inr (false, (0, .ofNat 1))], [], [], [])], [], 0, 0)
def cu214 : List sxCu := []
set_option maxRecDepth 1000000 in
theorem cv214 {gh : sxGh} (hg : sxGd sxKw gh) : sxCtV sxKw gh ct214 := sxMeB_ok (cts := []) (cuts := cu214) (sp := []) 174 (by decide +kernel) hg (by decide) (by decide) (fun _ h => absurd h List.not_mem_nil)
/-- LotBeliefs.TongueReader.read -/
def ct215 : sxCt := (102, 27, (1, [], [], [(0, .inl 1), (1, .inl 23)], [], [(1, (0, .ofNat 7), .inr (false, (0, .ofNat 0)))], [], []), [(1, 4), (1, 5), (1, 6), (1, 7), (1, 8), (1, 9), (1, 10), (23, 1), (23, 3), (24, 0)], [
  (3, [(1, .ofNat 0, .ofNat 10), (2, .ofNat 0, .ofNat 201)], [(2, 1, .ofNat 200)], [], [], [(1, (0, .ofNat 7), .inr (false, (0, .ofNat 0))), (23, (0, .ofNat 0), .inr (false, (1, .ofNat 0))), (23, (0, .ofNat 2), .inr (false, (2, .ofNat 0)))], [], [])], [], 0, 0)
def cu215 : List sxCu := [
  (6, (4, [(1, .ofNat 0, .ofNat 200), (2, .ofNat 0, .ofNat 10), (3, .ofNat 0, .ofNat 201)], [(2, 1, .ofNat 0), (3, 1, .ofNat 200), (3, 2, .ofNat 200)], [(0, .inl 1), (1, .inl 23), (2, .inr (false, (1, .ofNat 0)))], [], [(1, (0, .ofNat 7), .inr (false, (0, .ofNat 0))), (23, (0, .ofNat 0), .inr (false, (2, .ofNat 0))), (23, (0, .ofNat 2), .inr (false, (3, .ofNat 0)))], [], []), ((0, 1, .ofNat 200), (0, 0, .ofNat 0), (0, 0, .ofNat 0)), 0, 0)]
set_option maxRecDepth 1000000 in
theorem cv215 {gh : sxGh} (hg : sxGd sxKw gh) : sxCtV sxKw gh ct215 := sxMeB_ok (cts := [ct2, ct213, ct149, ct214, ct212]) (cuts := cu215) (sp := []) 957 (by decide +kernel) hg (by decide) (by decide) (List.forall_mem_cons.mpr ⟨cv2 hg, (List.forall_mem_cons.mpr ⟨cv213 hg, (List.forall_mem_cons.mpr ⟨cv149 hg, (List.forall_mem_cons.mpr ⟨cv214 hg, (List.forall_mem_cons.mpr ⟨cv212 hg, (fun _ h => absurd h List.not_mem_nil)⟩)⟩)⟩)⟩)⟩)
/-- LotBeliefs.forgetSurveys -/
def ct216 : sxCt := (191, 0, (1, [], [], [(0, .inl 0)], [], [], [], []), [(58, 2), (62, 2), (66, 2), (70, 2), (74, 2)], [
  (1, [], [], [], [], [], [], [])], [], 0, 0)
def cu216 : List sxCu := [
  (2, (2, [(1, .ofNat 0, .ofNat 5)], [], [(0, .inl 0), (1, .inr (false, (1, .ofNat 0)))], [], [], [], []), ((0, 1, .ofNat 5), (0, 0, .ofNat 0), (0, 0, .ofNat 0)), 0, 0)]
set_option maxRecDepth 1000000 in
theorem cv216 {gh : sxGh} (hg : sxGd sxKw gh) : sxCtV sxKw gh ct216 := sxMeB_ok (cts := []) (cuts := cu216) (sp := []) 92 (by decide +kernel) hg (by decide) (by decide) (fun _ h => absurd h List.not_mem_nil)
/-- LotBeliefs.TongueReader.readValue -/
def ct217 : sxCt := (110, 2, (1, [], [], [(0, .inl 1), (1, .inl 19)], [], [(1, (0, .ofNat 7), .inr (false, (0, .ofNat 6)))], [], []), [(1, 4), (1, 5), (1, 6), (1, 7), (1, 9), (1, 10), (19, 3), (20, 0)], [
  (2, [(1, .ofNat 0, .ofNat 4)], [], [], [], [(1, (0, .ofNat 3), .inr (false, (1, .ofNat 0))), (1, (0, .ofNat 7), .inr (false, (0, .ofNat 6)))], [], [])], [], 0, 0)
def cu217 : List sxCu := []
set_option maxRecDepth 1000000 in
theorem cv217 {gh : sxGh} (hg : sxGd sxKw gh) : sxCtV sxKw gh ct217 := sxMeB_ok (cts := [ct2, ct161]) (cuts := cu217) (sp := []) 476 (by decide +kernel) hg (by decide) (by decide) (List.forall_mem_cons.mpr ⟨cv2 hg, (List.forall_mem_cons.mpr ⟨cv161 hg, (fun _ h => absurd h List.not_mem_nil)⟩)⟩)
/-- LotBeliefs.TongueReader.readProduct -/
def ct218 : sxCt := (109, 3, (1, [], [], [(0, .inl 1), (1, .inl 19)], [], [(1, (0, .ofNat 7), .inr (false, (0, .ofNat 6)))], [], []), [(1, 4), (1, 5), (1, 6), (1, 7), (1, 9), (1, 10), (19, 3), (20, 0)], [
  (2, [(1, .ofNat 0, .ofNat 4)], [], [], [], [(1, (0, .ofNat 3), .inr (false, (1, .ofNat 0))), (1, (0, .ofNat 7), .inr (false, (0, .ofNat 6)))], [], [])], [], 0, 0)
def cu218 : List sxCu := [
  (7, (3, [(1, .ofNat 0, .ofNat 200), (2, .ofNat 0, .ofNat 4)], [], [(0, .inl 1), (1, .inl 19), (2, .inr (false, (1, .ofNat 0)))], [], [(1, (0, .ofNat 3), .inr (false, (2, .ofNat 0))), (1, (0, .ofNat 7), .inr (false, (0, .ofNat 6)))], [], []), ((0, 1, .ofNat 200), (0, 0, .ofNat 0), (0, 0, .ofNat 0)), 0, 0)]
set_option maxRecDepth 1000000 in
theorem cv218 {gh : sxGh} (hg : sxGd sxKw gh) : sxCtV sxKw gh ct218 := sxMeB_ok (cts := [ct2, ct217]) (cuts := cu218) (sp := []) 127 (by decide +kernel) hg (by decide) (by decide) (List.forall_mem_cons.mpr ⟨cv2 hg, (List.forall_mem_cons.mpr ⟨cv217 hg, (fun _ h => absurd h List.not_mem_nil)⟩)⟩)
/-- LotBeliefs.TongueReader.readSum -/
def ct219 : sxCt := (108, 4, (1, [], [], [(0, .inl 1), (1, .inl 19)], [], [(1, (0, .ofNat 7), .inr (false, (0, .ofNat 6)))], [], []), [(1, 4), (1, 5), (1, 6), (1, 7), (1, 9), (1, 10), (19, 3), (20, 0)], [
  (2, [(1, .ofNat 0, .ofNat 4)], [], [], [], [(1, (0, .ofNat 3), .inr (false, (1, .ofNat 0))), (1, (0, .ofNat 7), .inr (false, (0, .ofNat 6)))], [], [])], [], 0, 0)
def cu219 : List sxCu := [
  (7, (3, [(1, .ofNat 0, .ofNat 200), (2, .ofNat 0, .ofNat 4)], [], [(0, .inl 1), (1, .inl 19), (2, .inr (false, (1, .ofNat 0)))], [], [(1, (0, .ofNat 3), .inr (false, (2, .ofNat 0))), (1, (0, .ofNat 7), .inr (false, (0, .ofNat 6)))], [], []), ((0, 1, .ofNat 200), (0, 0, .ofNat 0), (0, 0, .ofNat 0)), 0, 0)]
set_option maxRecDepth 1000000 in
theorem cv219 {gh : sxGh} (hg : sxGd sxKw gh) : sxCtV sxKw gh ct219 := sxMeB_ok (cts := [ct2, ct218]) (cuts := cu219) (sp := []) 285 (by decide +kernel) hg (by decide) (by decide) (List.forall_mem_cons.mpr ⟨cv2 hg, (List.forall_mem_cons.mpr ⟨cv218 hg, (fun _ h => absurd h List.not_mem_nil)⟩)⟩)
/-- LotBeliefs.TongueReader.readRelation -/
def ct220 : sxCt := (107, 5, (1, [], [], [(0, .inl 1), (1, .inl 19)], [], [(1, (0, .ofNat 7), .inr (false, (0, .ofNat 6)))], [], []), [(1, 4), (1, 5), (1, 6), (1, 7), (1, 9), (1, 10), (19, 3), (20, 0)], [
  (3, [(1, .ofNat 0, .ofNat 4), (2, .ofNat 1, .ofNat 201)], [], [], [], [(1, (0, .ofNat 3), .inr (false, (1, .ofNat 0))), (1, (0, .ofNat 7), .inr (false, (0, .ofNat 6))), (19, (0, .ofNat 2), .inr (false, (2, .ofNat 0)))], [], [])], [], 0, 0)
def cu220 : List sxCu := []
set_option maxRecDepth 1000000 in
theorem cv220 {gh : sxGh} (hg : sxGd sxKw gh) : sxCtV sxKw gh ct220 := sxMeB_ok (cts := [ct2, ct219]) (cuts := cu220) (sp := []) 617 (by decide +kernel) hg (by decide) (by decide) (List.forall_mem_cons.mpr ⟨cv2 hg, (List.forall_mem_cons.mpr ⟨cv219 hg, (fun _ h => absurd h List.not_mem_nil)⟩)⟩)
/-- LotBeliefs.TongueReader.readPart -/
def ct221 : sxCt := (106, 6, (1, [], [], [(0, .inl 1), (1, .inl 19)], [], [(1, (0, .ofNat 7), .inr (false, (0, .ofNat 6)))], [], []), [(1, 4), (1, 5), (1, 6), (1, 7), (1, 9), (1, 10), (19, 3), (20, 0)], [
  (2, [(1, .ofNat 0, .ofNat 4)], [], [], [], [(1, (0, .ofNat 3), .inr (false, (1, .ofNat 0))), (1, (0, .ofNat 7), .inr (false, (0, .ofNat 6)))], [], [])], [], 0, 0)
def cu221 : List sxCu := []
set_option maxRecDepth 1000000 in
theorem cv221 {gh : sxGh} (hg : sxGd sxKw gh) : sxCtV sxKw gh ct221 := sxMeB_ok (cts := [ct150, ct220]) (cuts := cu221) (sp := []) 158 (by decide +kernel) hg (by decide) (by decide) (List.forall_mem_cons.mpr ⟨cv150 hg, (List.forall_mem_cons.mpr ⟨cv220 hg, (fun _ h => absurd h List.not_mem_nil)⟩)⟩)
/-- LotBeliefs.TongueReader.readEach -/
def ct222 : sxCt := (105, 7, (1, [], [], [(0, .inl 1), (1, .inl 19)], [], [(1, (0, .ofNat 7), .inr (false, (0, .ofNat 6)))], [], []), [(1, 4), (1, 5), (1, 6), (1, 7), (1, 9), (1, 10), (19, 3), (20, 0)], [
  (2, [(1, .ofNat 0, .ofNat 4)], [], [], [], [(1, (0, .ofNat 3), .inr (false, (1, .ofNat 0))), (1, (0, .ofNat 7), .inr (false, (0, .ofNat 6)))], [], [])], [], 0, 0)
def cu222 : List sxCu := [
  (7, (3, [(1, .ofNat 0, .ofNat 200), (2, .ofNat 0, .ofNat 4)], [], [(0, .inl 1), (1, .inl 19), (2, .inr (false, (1, .ofNat 0)))], [], [(1, (0, .ofNat 3), .inr (false, (2, .ofNat 0))), (1, (0, .ofNat 7), .inr (false, (0, .ofNat 6)))], [], []), ((0, 1, .ofNat 200), (0, 0, .ofNat 0), (0, 0, .ofNat 0)), 0, 0)]
set_option maxRecDepth 1000000 in
theorem cv222 {gh : sxGh} (hg : sxGd sxKw gh) : sxCtV sxKw gh ct222 := sxMeB_ok (cts := [ct2, ct167, ct221]) (cuts := cu222) (sp := []) 111 (by decide +kernel) hg (by decide) (by decide) (List.forall_mem_cons.mpr ⟨cv2 hg, (List.forall_mem_cons.mpr ⟨cv167 hg, (List.forall_mem_cons.mpr ⟨cv221 hg, (fun _ h => absurd h List.not_mem_nil)⟩)⟩)⟩)
/-- LotBeliefs.TongueReader.readEither -/
def ct223 : sxCt := (104, 8, (1, [], [], [(0, .inl 1), (1, .inl 19)], [], [(1, (0, .ofNat 7), .inr (false, (0, .ofNat 6)))], [], []), [(1, 4), (1, 5), (1, 6), (1, 7), (1, 9), (1, 10), (19, 3), (20, 0)], [
  (2, [(1, .ofNat 0, .ofNat 4)], [], [], [], [(1, (0, .ofNat 3), .inr (false, (1, .ofNat 0))), (1, (0, .ofNat 7), .inr (false, (0, .ofNat 6)))], [], [])], [], 0, 0)
def cu223 : List sxCu := [
  (7, (3, [(1, .ofNat 0, .ofNat 200), (2, .ofNat 0, .ofNat 4)], [], [(0, .inl 1), (1, .inl 19), (2, .inr (false, (1, .ofNat 0)))], [], [(1, (0, .ofNat 3), .inr (false, (2, .ofNat 0))), (1, (0, .ofNat 7), .inr (false, (0, .ofNat 6)))], [], []), ((0, 1, .ofNat 200), (0, 0, .ofNat 0), (0, 0, .ofNat 0)), 0, 0)]
set_option maxRecDepth 1000000 in
theorem cv223 {gh : sxGh} (hg : sxGd sxKw gh) : sxCtV sxKw gh ct223 := sxMeB_ok (cts := [ct2, ct169, ct222]) (cuts := cu223) (sp := []) 111 (by decide +kernel) hg (by decide) (by decide) (List.forall_mem_cons.mpr ⟨cv2 hg, (List.forall_mem_cons.mpr ⟨cv169 hg, (List.forall_mem_cons.mpr ⟨cv222 hg, (fun _ h => absurd h List.not_mem_nil)⟩)⟩)⟩)
/-- LotBeliefs.TongueReader.readValue -/
def ct224 : sxCt := (110, 5, (1, [], [], [(0, .inl 1), (1, .inl 19)], [], [(1, (0, .ofNat 7), .inr (false, (0, .ofNat 5)))], [], []), [(1, 4), (1, 5), (1, 6), (1, 7), (1, 8), (1, 9), (1, 10), (19, 3), (20, 0)], [
  (2, [(1, .ofNat 0, .ofNat 4)], [], [], [], [(1, (0, .ofNat 3), .inr (false, (1, .ofNat 0))), (1, (0, .ofNat 7), .inr (false, (0, .ofNat 5)))], [], [])], [], 0, 0)
def cu224 : List sxCu := []
set_option maxRecDepth 1000000 in
theorem cv224 {gh : sxGh} (hg : sxGd sxKw gh) : sxCtV sxKw gh ct224 := sxMeB_ok (cts := [ct2, ct219, ct161]) (cuts := cu224) (sp := []) 583 (by decide +kernel) hg (by decide) (by decide) (List.forall_mem_cons.mpr ⟨cv2 hg, (List.forall_mem_cons.mpr ⟨cv219 hg, (List.forall_mem_cons.mpr ⟨cv161 hg, (fun _ h => absurd h List.not_mem_nil)⟩)⟩)⟩)
/-- LotBeliefs.TongueReader.readProduct -/
def ct225 : sxCt := (109, 6, (1, [], [], [(0, .inl 1), (1, .inl 19)], [], [(1, (0, .ofNat 7), .inr (false, (0, .ofNat 5)))], [], []), [(1, 4), (1, 5), (1, 6), (1, 7), (1, 8), (1, 9), (1, 10), (19, 3), (20, 0)], [
  (2, [(1, .ofNat 0, .ofNat 4)], [], [], [], [(1, (0, .ofNat 3), .inr (false, (1, .ofNat 0))), (1, (0, .ofNat 7), .inr (false, (0, .ofNat 5)))], [], [])], [], 0, 0)
def cu225 : List sxCu := [
  (7, (3, [(1, .ofNat 0, .ofNat 200), (2, .ofNat 0, .ofNat 4)], [], [(0, .inl 1), (1, .inl 19), (2, .inr (false, (1, .ofNat 0)))], [], [(1, (0, .ofNat 3), .inr (false, (2, .ofNat 0))), (1, (0, .ofNat 7), .inr (false, (0, .ofNat 5)))], [], []), ((0, 1, .ofNat 200), (0, 0, .ofNat 0), (0, 0, .ofNat 0)), 0, 0)]
set_option maxRecDepth 1000000 in
theorem cv225 {gh : sxGh} (hg : sxGd sxKw gh) : sxCtV sxKw gh ct225 := sxMeB_ok (cts := [ct2, ct224]) (cuts := cu225) (sp := []) 127 (by decide +kernel) hg (by decide) (by decide) (List.forall_mem_cons.mpr ⟨cv2 hg, (List.forall_mem_cons.mpr ⟨cv224 hg, (fun _ h => absurd h List.not_mem_nil)⟩)⟩)
/-- LotBeliefs.TongueReader.readSum -/
def ct226 : sxCt := (108, 7, (1, [], [], [(0, .inl 1), (1, .inl 19)], [], [(1, (0, .ofNat 7), .inr (false, (0, .ofNat 5)))], [], []), [(1, 4), (1, 5), (1, 6), (1, 7), (1, 8), (1, 9), (1, 10), (19, 3), (20, 0)], [
  (2, [(1, .ofNat 0, .ofNat 4)], [], [], [], [(1, (0, .ofNat 3), .inr (false, (1, .ofNat 0))), (1, (0, .ofNat 7), .inr (false, (0, .ofNat 5)))], [], [])], [], 0, 0)
def cu226 : List sxCu := [
  (7, (3, [(1, .ofNat 0, .ofNat 200), (2, .ofNat 0, .ofNat 4)], [], [(0, .inl 1), (1, .inl 19), (2, .inr (false, (1, .ofNat 0)))], [], [(1, (0, .ofNat 3), .inr (false, (2, .ofNat 0))), (1, (0, .ofNat 7), .inr (false, (0, .ofNat 5)))], [], []), ((0, 1, .ofNat 200), (0, 0, .ofNat 0), (0, 0, .ofNat 0)), 0, 0)]
set_option maxRecDepth 1000000 in
theorem cv226 {gh : sxGh} (hg : sxGd sxKw gh) : sxCtV sxKw gh ct226 := sxMeB_ok (cts := [ct2, ct225]) (cuts := cu226) (sp := []) 285 (by decide +kernel) hg (by decide) (by decide) (List.forall_mem_cons.mpr ⟨cv2 hg, (List.forall_mem_cons.mpr ⟨cv225 hg, (fun _ h => absurd h List.not_mem_nil)⟩)⟩)
/-- LotBeliefs.TongueReader.readRelation -/
def ct227 : sxCt := (107, 8, (1, [], [], [(0, .inl 1), (1, .inl 19)], [], [(1, (0, .ofNat 7), .inr (false, (0, .ofNat 5)))], [], []), [(1, 4), (1, 5), (1, 6), (1, 7), (1, 8), (1, 9), (1, 10), (19, 3), (20, 0)], [
  (3, [(1, .ofNat 0, .ofNat 4), (2, .ofNat 1, .ofNat 201)], [], [], [], [(1, (0, .ofNat 3), .inr (false, (1, .ofNat 0))), (1, (0, .ofNat 7), .inr (false, (0, .ofNat 5))), (19, (0, .ofNat 2), .inr (false, (2, .ofNat 0)))], [], [])], [], 0, 0)
def cu227 : List sxCu := []
set_option maxRecDepth 1000000 in
theorem cv227 {gh : sxGh} (hg : sxGd sxKw gh) : sxCtV sxKw gh ct227 := sxMeB_ok (cts := [ct2, ct226]) (cuts := cu227) (sp := []) 617 (by decide +kernel) hg (by decide) (by decide) (List.forall_mem_cons.mpr ⟨cv2 hg, (List.forall_mem_cons.mpr ⟨cv226 hg, (fun _ h => absurd h List.not_mem_nil)⟩)⟩)
/-- LotBeliefs.TongueReader.readPart -/
def ct228 : sxCt := (106, 9, (1, [], [], [(0, .inl 1), (1, .inl 19)], [], [(1, (0, .ofNat 7), .inr (false, (0, .ofNat 5)))], [], []), [(1, 4), (1, 5), (1, 6), (1, 7), (1, 8), (1, 9), (1, 10), (19, 3), (20, 0)], [
  (2, [(1, .ofNat 0, .ofNat 4)], [], [], [], [(1, (0, .ofNat 3), .inr (false, (1, .ofNat 0))), (1, (0, .ofNat 7), .inr (false, (0, .ofNat 5)))], [], [])], [], 0, 0)
def cu228 : List sxCu := []
set_option maxRecDepth 1000000 in
theorem cv228 {gh : sxGh} (hg : sxGd sxKw gh) : sxCtV sxKw gh ct228 := sxMeB_ok (cts := [ct2, ct150, ct223, ct221, ct227]) (cuts := cu228) (sp := []) 290 (by decide +kernel) hg (by decide) (by decide) (List.forall_mem_cons.mpr ⟨cv2 hg, (List.forall_mem_cons.mpr ⟨cv150 hg, (List.forall_mem_cons.mpr ⟨cv223 hg, (List.forall_mem_cons.mpr ⟨cv221 hg, (List.forall_mem_cons.mpr ⟨cv227 hg, (fun _ h => absurd h List.not_mem_nil)⟩)⟩)⟩)⟩)⟩)
/-- LotBeliefs.TongueReader.readEach -/
def ct229 : sxCt := (105, 10, (1, [], [], [(0, .inl 1), (1, .inl 19)], [], [(1, (0, .ofNat 7), .inr (false, (0, .ofNat 5)))], [], []), [(1, 4), (1, 5), (1, 6), (1, 7), (1, 8), (1, 9), (1, 10), (19, 3), (20, 0)], [
  (2, [(1, .ofNat 0, .ofNat 4)], [], [], [], [(1, (0, .ofNat 3), .inr (false, (1, .ofNat 0))), (1, (0, .ofNat 7), .inr (false, (0, .ofNat 5)))], [], [])], [], 0, 0)
def cu229 : List sxCu := [
  (7, (3, [(1, .ofNat 0, .ofNat 200), (2, .ofNat 0, .ofNat 4)], [], [(0, .inl 1), (1, .inl 19), (2, .inr (false, (1, .ofNat 0)))], [], [(1, (0, .ofNat 3), .inr (false, (2, .ofNat 0))), (1, (0, .ofNat 7), .inr (false, (0, .ofNat 5)))], [], []), ((0, 1, .ofNat 200), (0, 0, .ofNat 0), (0, 0, .ofNat 0)), 0, 0)]
set_option maxRecDepth 1000000 in
theorem cv229 {gh : sxGh} (hg : sxGd sxKw gh) : sxCtV sxKw gh ct229 := sxMeB_ok (cts := [ct2, ct167, ct228]) (cuts := cu229) (sp := []) 111 (by decide +kernel) hg (by decide) (by decide) (List.forall_mem_cons.mpr ⟨cv2 hg, (List.forall_mem_cons.mpr ⟨cv167 hg, (List.forall_mem_cons.mpr ⟨cv228 hg, (fun _ h => absurd h List.not_mem_nil)⟩)⟩)⟩)
/-- LotBeliefs.TongueReader.readEither -/
def ct230 : sxCt := (104, 11, (1, [], [], [(0, .inl 1), (1, .inl 19)], [], [(1, (0, .ofNat 7), .inr (false, (0, .ofNat 5)))], [], []), [(1, 4), (1, 5), (1, 6), (1, 7), (1, 8), (1, 9), (1, 10), (19, 3), (20, 0)], [
  (2, [(1, .ofNat 0, .ofNat 4)], [], [], [], [(1, (0, .ofNat 3), .inr (false, (1, .ofNat 0))), (1, (0, .ofNat 7), .inr (false, (0, .ofNat 5)))], [], [])], [], 0, 0)
def cu230 : List sxCu := [
  (7, (3, [(1, .ofNat 0, .ofNat 200), (2, .ofNat 0, .ofNat 4)], [], [(0, .inl 1), (1, .inl 19), (2, .inr (false, (1, .ofNat 0)))], [], [(1, (0, .ofNat 3), .inr (false, (2, .ofNat 0))), (1, (0, .ofNat 7), .inr (false, (0, .ofNat 5)))], [], []), ((0, 1, .ofNat 200), (0, 0, .ofNat 0), (0, 0, .ofNat 0)), 0, 0)]
set_option maxRecDepth 1000000 in
theorem cv230 {gh : sxGh} (hg : sxGd sxKw gh) : sxCtV sxKw gh ct230 := sxMeB_ok (cts := [ct2, ct169, ct229]) (cuts := cu230) (sp := []) 111 (by decide +kernel) hg (by decide) (by decide) (List.forall_mem_cons.mpr ⟨cv2 hg, (List.forall_mem_cons.mpr ⟨cv169 hg, (List.forall_mem_cons.mpr ⟨cv229 hg, (fun _ h => absurd h List.not_mem_nil)⟩)⟩)⟩)
/-- LotBeliefs.TongueReader.readValue -/
def ct231 : sxCt := (110, 8, (1, [], [], [(0, .inl 1), (1, .inl 19)], [], [(1, (0, .ofNat 7), .inr (false, (0, .ofNat 4)))], [], []), [(1, 4), (1, 5), (1, 6), (1, 7), (1, 8), (1, 9), (1, 10), (19, 3), (20, 0)], [
  (2, [(1, .ofNat 0, .ofNat 4)], [], [], [], [(1, (0, .ofNat 3), .inr (false, (1, .ofNat 0))), (1, (0, .ofNat 7), .inr (false, (0, .ofNat 4)))], [], [])], [], 0, 0)
def cu231 : List sxCu := []
set_option maxRecDepth 1000000 in
theorem cv231 {gh : sxGh} (hg : sxGd sxKw gh) : sxCtV sxKw gh ct231 := sxMeB_ok (cts := [ct2, ct226, ct161]) (cuts := cu231) (sp := []) 583 (by decide +kernel) hg (by decide) (by decide) (List.forall_mem_cons.mpr ⟨cv2 hg, (List.forall_mem_cons.mpr ⟨cv226 hg, (List.forall_mem_cons.mpr ⟨cv161 hg, (fun _ h => absurd h List.not_mem_nil)⟩)⟩)⟩)
/-- LotBeliefs.TongueReader.readProduct -/
def ct232 : sxCt := (109, 9, (1, [], [], [(0, .inl 1), (1, .inl 19)], [], [(1, (0, .ofNat 7), .inr (false, (0, .ofNat 4)))], [], []), [(1, 4), (1, 5), (1, 6), (1, 7), (1, 8), (1, 9), (1, 10), (19, 3), (20, 0)], [
  (2, [(1, .ofNat 0, .ofNat 4)], [], [], [], [(1, (0, .ofNat 3), .inr (false, (1, .ofNat 0))), (1, (0, .ofNat 7), .inr (false, (0, .ofNat 4)))], [], [])], [], 0, 0)
def cu232 : List sxCu := [
  (7, (3, [(1, .ofNat 0, .ofNat 200), (2, .ofNat 0, .ofNat 4)], [], [(0, .inl 1), (1, .inl 19), (2, .inr (false, (1, .ofNat 0)))], [], [(1, (0, .ofNat 3), .inr (false, (2, .ofNat 0))), (1, (0, .ofNat 7), .inr (false, (0, .ofNat 4)))], [], []), ((0, 1, .ofNat 200), (0, 0, .ofNat 0), (0, 0, .ofNat 0)), 0, 0)]
set_option maxRecDepth 1000000 in
theorem cv232 {gh : sxGh} (hg : sxGd sxKw gh) : sxCtV sxKw gh ct232 := sxMeB_ok (cts := [ct2, ct231]) (cuts := cu232) (sp := []) 127 (by decide +kernel) hg (by decide) (by decide) (List.forall_mem_cons.mpr ⟨cv2 hg, (List.forall_mem_cons.mpr ⟨cv231 hg, (fun _ h => absurd h List.not_mem_nil)⟩)⟩)
/-- LotBeliefs.TongueReader.readSum -/
def ct233 : sxCt := (108, 10, (1, [], [], [(0, .inl 1), (1, .inl 19)], [], [(1, (0, .ofNat 7), .inr (false, (0, .ofNat 4)))], [], []), [(1, 4), (1, 5), (1, 6), (1, 7), (1, 8), (1, 9), (1, 10), (19, 3), (20, 0)], [
  (2, [(1, .ofNat 0, .ofNat 4)], [], [], [], [(1, (0, .ofNat 3), .inr (false, (1, .ofNat 0))), (1, (0, .ofNat 7), .inr (false, (0, .ofNat 4)))], [], [])], [], 0, 0)
def cu233 : List sxCu := [
  (7, (3, [(1, .ofNat 0, .ofNat 200), (2, .ofNat 0, .ofNat 4)], [], [(0, .inl 1), (1, .inl 19), (2, .inr (false, (1, .ofNat 0)))], [], [(1, (0, .ofNat 3), .inr (false, (2, .ofNat 0))), (1, (0, .ofNat 7), .inr (false, (0, .ofNat 4)))], [], []), ((0, 1, .ofNat 200), (0, 0, .ofNat 0), (0, 0, .ofNat 0)), 0, 0)]
set_option maxRecDepth 1000000 in
theorem cv233 {gh : sxGh} (hg : sxGd sxKw gh) : sxCtV sxKw gh ct233 := sxMeB_ok (cts := [ct2, ct232]) (cuts := cu233) (sp := []) 285 (by decide +kernel) hg (by decide) (by decide) (List.forall_mem_cons.mpr ⟨cv2 hg, (List.forall_mem_cons.mpr ⟨cv232 hg, (fun _ h => absurd h List.not_mem_nil)⟩)⟩)
/-- LotBeliefs.TongueReader.readRelation -/
def ct234 : sxCt := (107, 11, (1, [], [], [(0, .inl 1), (1, .inl 19)], [], [(1, (0, .ofNat 7), .inr (false, (0, .ofNat 4)))], [], []), [(1, 4), (1, 5), (1, 6), (1, 7), (1, 8), (1, 9), (1, 10), (19, 3), (20, 0)], [
  (3, [(1, .ofNat 0, .ofNat 4), (2, .ofNat 1, .ofNat 201)], [], [], [], [(1, (0, .ofNat 3), .inr (false, (1, .ofNat 0))), (1, (0, .ofNat 7), .inr (false, (0, .ofNat 4))), (19, (0, .ofNat 2), .inr (false, (2, .ofNat 0)))], [], [])], [], 0, 0)
def cu234 : List sxCu := []
set_option maxRecDepth 1000000 in
theorem cv234 {gh : sxGh} (hg : sxGd sxKw gh) : sxCtV sxKw gh ct234 := sxMeB_ok (cts := [ct2, ct233]) (cuts := cu234) (sp := []) 617 (by decide +kernel) hg (by decide) (by decide) (List.forall_mem_cons.mpr ⟨cv2 hg, (List.forall_mem_cons.mpr ⟨cv233 hg, (fun _ h => absurd h List.not_mem_nil)⟩)⟩)
/-- LotBeliefs.TongueReader.readPart -/
def ct235 : sxCt := (106, 12, (1, [], [], [(0, .inl 1), (1, .inl 19)], [], [(1, (0, .ofNat 7), .inr (false, (0, .ofNat 4)))], [], []), [(1, 4), (1, 5), (1, 6), (1, 7), (1, 8), (1, 9), (1, 10), (19, 3), (20, 0)], [
  (2, [(1, .ofNat 0, .ofNat 4)], [], [], [], [(1, (0, .ofNat 3), .inr (false, (1, .ofNat 0))), (1, (0, .ofNat 7), .inr (false, (0, .ofNat 4)))], [], [])], [], 0, 0)
def cu235 : List sxCu := []
set_option maxRecDepth 1000000 in
theorem cv235 {gh : sxGh} (hg : sxGd sxKw gh) : sxCtV sxKw gh ct235 := sxMeB_ok (cts := [ct2, ct150, ct230, ct228, ct234]) (cuts := cu235) (sp := []) 290 (by decide +kernel) hg (by decide) (by decide) (List.forall_mem_cons.mpr ⟨cv2 hg, (List.forall_mem_cons.mpr ⟨cv150 hg, (List.forall_mem_cons.mpr ⟨cv230 hg, (List.forall_mem_cons.mpr ⟨cv228 hg, (List.forall_mem_cons.mpr ⟨cv234 hg, (fun _ h => absurd h List.not_mem_nil)⟩)⟩)⟩)⟩)⟩)
/-- LotBeliefs.TongueReader.readEach -/
def ct236 : sxCt := (105, 13, (1, [], [], [(0, .inl 1), (1, .inl 19)], [], [(1, (0, .ofNat 7), .inr (false, (0, .ofNat 4)))], [], []), [(1, 4), (1, 5), (1, 6), (1, 7), (1, 8), (1, 9), (1, 10), (19, 3), (20, 0)], [
  (2, [(1, .ofNat 0, .ofNat 4)], [], [], [], [(1, (0, .ofNat 3), .inr (false, (1, .ofNat 0))), (1, (0, .ofNat 7), .inr (false, (0, .ofNat 4)))], [], [])], [], 0, 0)
def cu236 : List sxCu := [
  (7, (3, [(1, .ofNat 0, .ofNat 200), (2, .ofNat 0, .ofNat 4)], [], [(0, .inl 1), (1, .inl 19), (2, .inr (false, (1, .ofNat 0)))], [], [(1, (0, .ofNat 3), .inr (false, (2, .ofNat 0))), (1, (0, .ofNat 7), .inr (false, (0, .ofNat 4)))], [], []), ((0, 1, .ofNat 200), (0, 0, .ofNat 0), (0, 0, .ofNat 0)), 0, 0)]
set_option maxRecDepth 1000000 in
theorem cv236 {gh : sxGh} (hg : sxGd sxKw gh) : sxCtV sxKw gh ct236 := sxMeB_ok (cts := [ct2, ct167, ct235]) (cuts := cu236) (sp := []) 111 (by decide +kernel) hg (by decide) (by decide) (List.forall_mem_cons.mpr ⟨cv2 hg, (List.forall_mem_cons.mpr ⟨cv167 hg, (List.forall_mem_cons.mpr ⟨cv235 hg, (fun _ h => absurd h List.not_mem_nil)⟩)⟩)⟩)
/-- LotBeliefs.TongueReader.readEither -/
def ct237 : sxCt := (104, 14, (1, [], [], [(0, .inl 1), (1, .inl 19)], [], [(1, (0, .ofNat 7), .inr (false, (0, .ofNat 4)))], [], []), [(1, 4), (1, 5), (1, 6), (1, 7), (1, 8), (1, 9), (1, 10), (19, 3), (20, 0)], [
  (2, [(1, .ofNat 0, .ofNat 4)], [], [], [], [(1, (0, .ofNat 3), .inr (false, (1, .ofNat 0))), (1, (0, .ofNat 7), .inr (false, (0, .ofNat 4)))], [], [])], [], 0, 0)
def cu237 : List sxCu := [
  (7, (3, [(1, .ofNat 0, .ofNat 200), (2, .ofNat 0, .ofNat 4)], [], [(0, .inl 1), (1, .inl 19), (2, .inr (false, (1, .ofNat 0)))], [], [(1, (0, .ofNat 3), .inr (false, (2, .ofNat 0))), (1, (0, .ofNat 7), .inr (false, (0, .ofNat 4)))], [], []), ((0, 1, .ofNat 200), (0, 0, .ofNat 0), (0, 0, .ofNat 0)), 0, 0)]
set_option maxRecDepth 1000000 in
theorem cv237 {gh : sxGh} (hg : sxGd sxKw gh) : sxCtV sxKw gh ct237 := sxMeB_ok (cts := [ct2, ct169, ct236]) (cuts := cu237) (sp := []) 111 (by decide +kernel) hg (by decide) (by decide) (List.forall_mem_cons.mpr ⟨cv2 hg, (List.forall_mem_cons.mpr ⟨cv169 hg, (List.forall_mem_cons.mpr ⟨cv236 hg, (fun _ h => absurd h List.not_mem_nil)⟩)⟩)⟩)
/-- LotBeliefs.TongueReader.readValue -/
def ct238 : sxCt := (110, 11, (1, [], [], [(0, .inl 1), (1, .inl 19)], [], [(1, (0, .ofNat 7), .inr (false, (0, .ofNat 3)))], [], []), [(1, 4), (1, 5), (1, 6), (1, 7), (1, 8), (1, 9), (1, 10), (19, 3), (20, 0)], [
  (2, [(1, .ofNat 0, .ofNat 4)], [], [], [], [(1, (0, .ofNat 3), .inr (false, (1, .ofNat 0))), (1, (0, .ofNat 7), .inr (false, (0, .ofNat 3)))], [], [])], [], 0, 0)
def cu238 : List sxCu := []
set_option maxRecDepth 1000000 in
theorem cv238 {gh : sxGh} (hg : sxGd sxKw gh) : sxCtV sxKw gh ct238 := sxMeB_ok (cts := [ct2, ct233, ct161]) (cuts := cu238) (sp := []) 583 (by decide +kernel) hg (by decide) (by decide) (List.forall_mem_cons.mpr ⟨cv2 hg, (List.forall_mem_cons.mpr ⟨cv233 hg, (List.forall_mem_cons.mpr ⟨cv161 hg, (fun _ h => absurd h List.not_mem_nil)⟩)⟩)⟩)
/-- LotBeliefs.TongueReader.readProduct -/
def ct239 : sxCt := (109, 12, (1, [], [], [(0, .inl 1), (1, .inl 19)], [], [(1, (0, .ofNat 7), .inr (false, (0, .ofNat 3)))], [], []), [(1, 4), (1, 5), (1, 6), (1, 7), (1, 8), (1, 9), (1, 10), (19, 3), (20, 0)], [
  (2, [(1, .ofNat 0, .ofNat 4)], [], [], [], [(1, (0, .ofNat 3), .inr (false, (1, .ofNat 0))), (1, (0, .ofNat 7), .inr (false, (0, .ofNat 3)))], [], [])], [], 0, 0)
def cu239 : List sxCu := [
  (7, (3, [(1, .ofNat 0, .ofNat 200), (2, .ofNat 0, .ofNat 4)], [], [(0, .inl 1), (1, .inl 19), (2, .inr (false, (1, .ofNat 0)))], [], [(1, (0, .ofNat 3), .inr (false, (2, .ofNat 0))), (1, (0, .ofNat 7), .inr (false, (0, .ofNat 3)))], [], []), ((0, 1, .ofNat 200), (0, 0, .ofNat 0), (0, 0, .ofNat 0)), 0, 0)]
set_option maxRecDepth 1000000 in
theorem cv239 {gh : sxGh} (hg : sxGd sxKw gh) : sxCtV sxKw gh ct239 := sxMeB_ok (cts := [ct2, ct238]) (cuts := cu239) (sp := []) 127 (by decide +kernel) hg (by decide) (by decide) (List.forall_mem_cons.mpr ⟨cv2 hg, (List.forall_mem_cons.mpr ⟨cv238 hg, (fun _ h => absurd h List.not_mem_nil)⟩)⟩)
/-- LotBeliefs.TongueReader.readSum -/
def ct240 : sxCt := (108, 13, (1, [], [], [(0, .inl 1), (1, .inl 19)], [], [(1, (0, .ofNat 7), .inr (false, (0, .ofNat 3)))], [], []), [(1, 4), (1, 5), (1, 6), (1, 7), (1, 8), (1, 9), (1, 10), (19, 3), (20, 0)], [
  (2, [(1, .ofNat 0, .ofNat 4)], [], [], [], [(1, (0, .ofNat 3), .inr (false, (1, .ofNat 0))), (1, (0, .ofNat 7), .inr (false, (0, .ofNat 3)))], [], [])], [], 0, 0)
def cu240 : List sxCu := [
  (7, (3, [(1, .ofNat 0, .ofNat 200), (2, .ofNat 0, .ofNat 4)], [], [(0, .inl 1), (1, .inl 19), (2, .inr (false, (1, .ofNat 0)))], [], [(1, (0, .ofNat 3), .inr (false, (2, .ofNat 0))), (1, (0, .ofNat 7), .inr (false, (0, .ofNat 3)))], [], []), ((0, 1, .ofNat 200), (0, 0, .ofNat 0), (0, 0, .ofNat 0)), 0, 0)]
set_option maxRecDepth 1000000 in
theorem cv240 {gh : sxGh} (hg : sxGd sxKw gh) : sxCtV sxKw gh ct240 := sxMeB_ok (cts := [ct2, ct239]) (cuts := cu240) (sp := []) 285 (by decide +kernel) hg (by decide) (by decide) (List.forall_mem_cons.mpr ⟨cv2 hg, (List.forall_mem_cons.mpr ⟨cv239 hg, (fun _ h => absurd h List.not_mem_nil)⟩)⟩)
/-- LotBeliefs.TongueReader.readRelation -/
def ct241 : sxCt := (107, 14, (1, [], [], [(0, .inl 1), (1, .inl 19)], [], [(1, (0, .ofNat 7), .inr (false, (0, .ofNat 3)))], [], []), [(1, 4), (1, 5), (1, 6), (1, 7), (1, 8), (1, 9), (1, 10), (19, 3), (20, 0)], [
  (3, [(1, .ofNat 0, .ofNat 4), (2, .ofNat 1, .ofNat 201)], [], [], [], [(1, (0, .ofNat 3), .inr (false, (1, .ofNat 0))), (1, (0, .ofNat 7), .inr (false, (0, .ofNat 3))), (19, (0, .ofNat 2), .inr (false, (2, .ofNat 0)))], [], [])], [], 0, 0)
def cu241 : List sxCu := []
set_option maxRecDepth 1000000 in
theorem cv241 {gh : sxGh} (hg : sxGd sxKw gh) : sxCtV sxKw gh ct241 := sxMeB_ok (cts := [ct2, ct240]) (cuts := cu241) (sp := []) 617 (by decide +kernel) hg (by decide) (by decide) (List.forall_mem_cons.mpr ⟨cv2 hg, (List.forall_mem_cons.mpr ⟨cv240 hg, (fun _ h => absurd h List.not_mem_nil)⟩)⟩)
/-- LotBeliefs.TongueReader.readPart -/
def ct242 : sxCt := (106, 15, (1, [], [], [(0, .inl 1), (1, .inl 19)], [], [(1, (0, .ofNat 7), .inr (false, (0, .ofNat 3)))], [], []), [(1, 4), (1, 5), (1, 6), (1, 7), (1, 8), (1, 9), (1, 10), (19, 3), (20, 0)], [
  (2, [(1, .ofNat 0, .ofNat 4)], [], [], [], [(1, (0, .ofNat 3), .inr (false, (1, .ofNat 0))), (1, (0, .ofNat 7), .inr (false, (0, .ofNat 3)))], [], [])], [], 0, 0)
def cu242 : List sxCu := []
set_option maxRecDepth 1000000 in
theorem cv242 {gh : sxGh} (hg : sxGd sxKw gh) : sxCtV sxKw gh ct242 := sxMeB_ok (cts := [ct2, ct150, ct237, ct235, ct241]) (cuts := cu242) (sp := []) 290 (by decide +kernel) hg (by decide) (by decide) (List.forall_mem_cons.mpr ⟨cv2 hg, (List.forall_mem_cons.mpr ⟨cv150 hg, (List.forall_mem_cons.mpr ⟨cv237 hg, (List.forall_mem_cons.mpr ⟨cv235 hg, (List.forall_mem_cons.mpr ⟨cv241 hg, (fun _ h => absurd h List.not_mem_nil)⟩)⟩)⟩)⟩)⟩)
/-- LotBeliefs.TongueReader.readEach -/
def ct243 : sxCt := (105, 16, (1, [], [], [(0, .inl 1), (1, .inl 19)], [], [(1, (0, .ofNat 7), .inr (false, (0, .ofNat 3)))], [], []), [(1, 4), (1, 5), (1, 6), (1, 7), (1, 8), (1, 9), (1, 10), (19, 3), (20, 0)], [
  (2, [(1, .ofNat 0, .ofNat 4)], [], [], [], [(1, (0, .ofNat 3), .inr (false, (1, .ofNat 0))), (1, (0, .ofNat 7), .inr (false, (0, .ofNat 3)))], [], [])], [], 0, 0)
def cu243 : List sxCu := [
  (7, (3, [(1, .ofNat 0, .ofNat 200), (2, .ofNat 0, .ofNat 4)], [], [(0, .inl 1), (1, .inl 19), (2, .inr (false, (1, .ofNat 0)))], [], [(1, (0, .ofNat 3), .inr (false, (2, .ofNat 0))), (1, (0, .ofNat 7), .inr (false, (0, .ofNat 3)))], [], []), ((0, 1, .ofNat 200), (0, 0, .ofNat 0), (0, 0, .ofNat 0)), 0, 0)]
set_option maxRecDepth 1000000 in
theorem cv243 {gh : sxGh} (hg : sxGd sxKw gh) : sxCtV sxKw gh ct243 := sxMeB_ok (cts := [ct2, ct167, ct242]) (cuts := cu243) (sp := []) 111 (by decide +kernel) hg (by decide) (by decide) (List.forall_mem_cons.mpr ⟨cv2 hg, (List.forall_mem_cons.mpr ⟨cv167 hg, (List.forall_mem_cons.mpr ⟨cv242 hg, (fun _ h => absurd h List.not_mem_nil)⟩)⟩)⟩)
/-- LotBeliefs.TongueReader.readEither -/
def ct244 : sxCt := (104, 17, (1, [], [], [(0, .inl 1), (1, .inl 19)], [], [(1, (0, .ofNat 7), .inr (false, (0, .ofNat 3)))], [], []), [(1, 4), (1, 5), (1, 6), (1, 7), (1, 8), (1, 9), (1, 10), (19, 3), (20, 0)], [
  (2, [(1, .ofNat 0, .ofNat 4)], [], [], [], [(1, (0, .ofNat 3), .inr (false, (1, .ofNat 0))), (1, (0, .ofNat 7), .inr (false, (0, .ofNat 3)))], [], [])], [], 0, 0)
def cu244 : List sxCu := [
  (7, (3, [(1, .ofNat 0, .ofNat 200), (2, .ofNat 0, .ofNat 4)], [], [(0, .inl 1), (1, .inl 19), (2, .inr (false, (1, .ofNat 0)))], [], [(1, (0, .ofNat 3), .inr (false, (2, .ofNat 0))), (1, (0, .ofNat 7), .inr (false, (0, .ofNat 3)))], [], []), ((0, 1, .ofNat 200), (0, 0, .ofNat 0), (0, 0, .ofNat 0)), 0, 0)]
set_option maxRecDepth 1000000 in
theorem cv244 {gh : sxGh} (hg : sxGd sxKw gh) : sxCtV sxKw gh ct244 := sxMeB_ok (cts := [ct2, ct169, ct243]) (cuts := cu244) (sp := []) 111 (by decide +kernel) hg (by decide) (by decide) (List.forall_mem_cons.mpr ⟨cv2 hg, (List.forall_mem_cons.mpr ⟨cv169 hg, (List.forall_mem_cons.mpr ⟨cv243 hg, (fun _ h => absurd h List.not_mem_nil)⟩)⟩)⟩)
/-- LotBeliefs.TongueReader.readValue -/
def ct245 : sxCt := (110, 14, (1, [], [], [(0, .inl 1), (1, .inl 19)], [], [(1, (0, .ofNat 7), .inr (false, (0, .ofNat 2)))], [], []), [(1, 4), (1, 5), (1, 6), (1, 7), (1, 8), (1, 9), (1, 10), (19, 3), (20, 0)], [
  (2, [(1, .ofNat 0, .ofNat 4)], [], [], [], [(1, (0, .ofNat 3), .inr (false, (1, .ofNat 0))), (1, (0, .ofNat 7), .inr (false, (0, .ofNat 2)))], [], [])], [], 0, 0)
def cu245 : List sxCu := []
set_option maxRecDepth 1000000 in
theorem cv245 {gh : sxGh} (hg : sxGd sxKw gh) : sxCtV sxKw gh ct245 := sxMeB_ok (cts := [ct2, ct240, ct161]) (cuts := cu245) (sp := []) 583 (by decide +kernel) hg (by decide) (by decide) (List.forall_mem_cons.mpr ⟨cv2 hg, (List.forall_mem_cons.mpr ⟨cv240 hg, (List.forall_mem_cons.mpr ⟨cv161 hg, (fun _ h => absurd h List.not_mem_nil)⟩)⟩)⟩)
/-- LotBeliefs.TongueReader.readProduct -/
def ct246 : sxCt := (109, 15, (1, [], [], [(0, .inl 1), (1, .inl 19)], [], [(1, (0, .ofNat 7), .inr (false, (0, .ofNat 2)))], [], []), [(1, 4), (1, 5), (1, 6), (1, 7), (1, 8), (1, 9), (1, 10), (19, 3), (20, 0)], [
  (2, [(1, .ofNat 0, .ofNat 4)], [], [], [], [(1, (0, .ofNat 3), .inr (false, (1, .ofNat 0))), (1, (0, .ofNat 7), .inr (false, (0, .ofNat 2)))], [], [])], [], 0, 0)
def cu246 : List sxCu := [
  (7, (3, [(1, .ofNat 0, .ofNat 200), (2, .ofNat 0, .ofNat 4)], [], [(0, .inl 1), (1, .inl 19), (2, .inr (false, (1, .ofNat 0)))], [], [(1, (0, .ofNat 3), .inr (false, (2, .ofNat 0))), (1, (0, .ofNat 7), .inr (false, (0, .ofNat 2)))], [], []), ((0, 1, .ofNat 200), (0, 0, .ofNat 0), (0, 0, .ofNat 0)), 0, 0)]
set_option maxRecDepth 1000000 in
theorem cv246 {gh : sxGh} (hg : sxGd sxKw gh) : sxCtV sxKw gh ct246 := sxMeB_ok (cts := [ct2, ct245]) (cuts := cu246) (sp := []) 127 (by decide +kernel) hg (by decide) (by decide) (List.forall_mem_cons.mpr ⟨cv2 hg, (List.forall_mem_cons.mpr ⟨cv245 hg, (fun _ h => absurd h List.not_mem_nil)⟩)⟩)
/-- LotBeliefs.TongueReader.readSum -/
def ct247 : sxCt := (108, 16, (1, [], [], [(0, .inl 1), (1, .inl 19)], [], [(1, (0, .ofNat 7), .inr (false, (0, .ofNat 2)))], [], []), [(1, 4), (1, 5), (1, 6), (1, 7), (1, 8), (1, 9), (1, 10), (19, 3), (20, 0)], [
  (2, [(1, .ofNat 0, .ofNat 4)], [], [], [], [(1, (0, .ofNat 3), .inr (false, (1, .ofNat 0))), (1, (0, .ofNat 7), .inr (false, (0, .ofNat 2)))], [], [])], [], 0, 0)
def cu247 : List sxCu := [
  (7, (3, [(1, .ofNat 0, .ofNat 200), (2, .ofNat 0, .ofNat 4)], [], [(0, .inl 1), (1, .inl 19), (2, .inr (false, (1, .ofNat 0)))], [], [(1, (0, .ofNat 3), .inr (false, (2, .ofNat 0))), (1, (0, .ofNat 7), .inr (false, (0, .ofNat 2)))], [], []), ((0, 1, .ofNat 200), (0, 0, .ofNat 0), (0, 0, .ofNat 0)), 0, 0)]
set_option maxRecDepth 1000000 in
theorem cv247 {gh : sxGh} (hg : sxGd sxKw gh) : sxCtV sxKw gh ct247 := sxMeB_ok (cts := [ct2, ct246]) (cuts := cu247) (sp := []) 285 (by decide +kernel) hg (by decide) (by decide) (List.forall_mem_cons.mpr ⟨cv2 hg, (List.forall_mem_cons.mpr ⟨cv246 hg, (fun _ h => absurd h List.not_mem_nil)⟩)⟩)
/-- LotBeliefs.TongueReader.readRelation -/
def ct248 : sxCt := (107, 17, (1, [], [], [(0, .inl 1), (1, .inl 19)], [], [(1, (0, .ofNat 7), .inr (false, (0, .ofNat 2)))], [], []), [(1, 4), (1, 5), (1, 6), (1, 7), (1, 8), (1, 9), (1, 10), (19, 3), (20, 0)], [
  (3, [(1, .ofNat 0, .ofNat 4), (2, .ofNat 1, .ofNat 201)], [], [], [], [(1, (0, .ofNat 3), .inr (false, (1, .ofNat 0))), (1, (0, .ofNat 7), .inr (false, (0, .ofNat 2))), (19, (0, .ofNat 2), .inr (false, (2, .ofNat 0)))], [], [])], [], 0, 0)
def cu248 : List sxCu := []
set_option maxRecDepth 1000000 in
theorem cv248 {gh : sxGh} (hg : sxGd sxKw gh) : sxCtV sxKw gh ct248 := sxMeB_ok (cts := [ct2, ct247]) (cuts := cu248) (sp := []) 617 (by decide +kernel) hg (by decide) (by decide) (List.forall_mem_cons.mpr ⟨cv2 hg, (List.forall_mem_cons.mpr ⟨cv247 hg, (fun _ h => absurd h List.not_mem_nil)⟩)⟩)
/-- LotBeliefs.TongueReader.readPart -/
def ct249 : sxCt := (106, 18, (1, [], [], [(0, .inl 1), (1, .inl 19)], [], [(1, (0, .ofNat 7), .inr (false, (0, .ofNat 2)))], [], []), [(1, 4), (1, 5), (1, 6), (1, 7), (1, 8), (1, 9), (1, 10), (19, 3), (20, 0)], [
  (2, [(1, .ofNat 0, .ofNat 4)], [], [], [], [(1, (0, .ofNat 3), .inr (false, (1, .ofNat 0))), (1, (0, .ofNat 7), .inr (false, (0, .ofNat 2)))], [], [])], [], 0, 0)
def cu249 : List sxCu := []
set_option maxRecDepth 1000000 in
theorem cv249 {gh : sxGh} (hg : sxGd sxKw gh) : sxCtV sxKw gh ct249 := sxMeB_ok (cts := [ct2, ct150, ct244, ct242, ct248]) (cuts := cu249) (sp := []) 290 (by decide +kernel) hg (by decide) (by decide) (List.forall_mem_cons.mpr ⟨cv2 hg, (List.forall_mem_cons.mpr ⟨cv150 hg, (List.forall_mem_cons.mpr ⟨cv244 hg, (List.forall_mem_cons.mpr ⟨cv242 hg, (List.forall_mem_cons.mpr ⟨cv248 hg, (fun _ h => absurd h List.not_mem_nil)⟩)⟩)⟩)⟩)⟩)
/-- LotBeliefs.TongueReader.readEach -/
def ct250 : sxCt := (105, 19, (1, [], [], [(0, .inl 1), (1, .inl 19)], [], [(1, (0, .ofNat 7), .inr (false, (0, .ofNat 2)))], [], []), [(1, 4), (1, 5), (1, 6), (1, 7), (1, 8), (1, 9), (1, 10), (19, 3), (20, 0)], [
  (2, [(1, .ofNat 0, .ofNat 4)], [], [], [], [(1, (0, .ofNat 3), .inr (false, (1, .ofNat 0))), (1, (0, .ofNat 7), .inr (false, (0, .ofNat 2)))], [], [])], [], 0, 0)
def cu250 : List sxCu := [
  (7, (3, [(1, .ofNat 0, .ofNat 200), (2, .ofNat 0, .ofNat 4)], [], [(0, .inl 1), (1, .inl 19), (2, .inr (false, (1, .ofNat 0)))], [], [(1, (0, .ofNat 3), .inr (false, (2, .ofNat 0))), (1, (0, .ofNat 7), .inr (false, (0, .ofNat 2)))], [], []), ((0, 1, .ofNat 200), (0, 0, .ofNat 0), (0, 0, .ofNat 0)), 0, 0)]
set_option maxRecDepth 1000000 in
theorem cv250 {gh : sxGh} (hg : sxGd sxKw gh) : sxCtV sxKw gh ct250 := sxMeB_ok (cts := [ct2, ct167, ct249]) (cuts := cu250) (sp := []) 111 (by decide +kernel) hg (by decide) (by decide) (List.forall_mem_cons.mpr ⟨cv2 hg, (List.forall_mem_cons.mpr ⟨cv167 hg, (List.forall_mem_cons.mpr ⟨cv249 hg, (fun _ h => absurd h List.not_mem_nil)⟩)⟩)⟩)
/-- LotBeliefs.TongueReader.readEither -/
def ct251 : sxCt := (104, 20, (1, [], [], [(0, .inl 1), (1, .inl 19)], [], [(1, (0, .ofNat 7), .inr (false, (0, .ofNat 2)))], [], []), [(1, 4), (1, 5), (1, 6), (1, 7), (1, 8), (1, 9), (1, 10), (19, 3), (20, 0)], [
  (2, [(1, .ofNat 0, .ofNat 4)], [], [], [], [(1, (0, .ofNat 3), .inr (false, (1, .ofNat 0))), (1, (0, .ofNat 7), .inr (false, (0, .ofNat 2)))], [], [])], [], 0, 0)
def cu251 : List sxCu := [
  (7, (3, [(1, .ofNat 0, .ofNat 200), (2, .ofNat 0, .ofNat 4)], [], [(0, .inl 1), (1, .inl 19), (2, .inr (false, (1, .ofNat 0)))], [], [(1, (0, .ofNat 3), .inr (false, (2, .ofNat 0))), (1, (0, .ofNat 7), .inr (false, (0, .ofNat 2)))], [], []), ((0, 1, .ofNat 200), (0, 0, .ofNat 0), (0, 0, .ofNat 0)), 0, 0)]
set_option maxRecDepth 1000000 in
theorem cv251 {gh : sxGh} (hg : sxGd sxKw gh) : sxCtV sxKw gh ct251 := sxMeB_ok (cts := [ct2, ct169, ct250]) (cuts := cu251) (sp := []) 111 (by decide +kernel) hg (by decide) (by decide) (List.forall_mem_cons.mpr ⟨cv2 hg, (List.forall_mem_cons.mpr ⟨cv169 hg, (List.forall_mem_cons.mpr ⟨cv250 hg, (fun _ h => absurd h List.not_mem_nil)⟩)⟩)⟩)
end SXC
