/-! SX: contracts, by program -/
section SXC
/-- LotBeliefsModel.oneOf -/
def ct86 : sxCt := (218, 16, (3, [(1, .ofNat 0, .ofNat 4), (2, .ofNat 0, .ofNat 600)], [], [(0, .inl 78)], [], [(78, (0, .ofNat 8), .inr (false, (0, .ofNat 2))), (78, (0, .ofNat 5), .inr (false, (1, .ofNat 0))), (78, (0, .ofNat 4), .inr (false, (2, .ofNat 0)))], [], []), [(78, 5), (78, 6), (78, 7), (78, 9), (579, 5)], [
  (6, [(3, .negSucc 9223372036854775807, .ofNat 9223372036854775807), (4, .ofNat 0, .ofNat 600), (5, .ofNat 1, .ofNat 4)], [(1, 5, .ofNat 0), (2, 4, .ofNat 0)], [], [.inr (true, (3, .ofNat 0))], [(78, (0, .ofNat 4), .inr (false, (4, .ofNat 0))), (78, (0, .ofNat 5), .inr (false, (5, .ofNat 0))), (78, (0, .ofNat 8), .inr (false, (0, .ofNat 2)))], [], []), 
  (5, [(1, .ofNat 0, .ofNat 0), (2, .ofNat 0, .ofNat 599), (3, .negSucc 9223372036854775807, .ofNat 9223372036854775807), (4, .ofNat 1, .ofNat 600)], [(2, 4, .negSucc 0)], [], [.inr (true, (3, .ofNat 0))], [(78, (0, .ofNat 4), .inr (false, (4, .ofNat 0))), (78, (0, .ofNat 5), .inr (false, (0, .ofNat 0))), (78, (0, .ofNat 8), .inr (false, (0, .ofNat 2)))], [], [])], [], 0, 0)
def cu86 : List sxCu := []
set_option maxRecDepth 1000000 in
theorem cv86 {gh : sxGh} (hg : sxGd sxKw gh) : sxCtV sxKw gh ct86 := sxMeB_ok (cts := [ct59, ct61, ct63, ct65, ct62, ct76, ct66, ct67, ct85, ct83]) (cuts := cu86) (sp := []) 1605 (by decide +kernel) hg (by decide) (by decide) (List.forall_mem_cons.mpr ⟨cv59 hg, (List.forall_mem_cons.mpr ⟨cv61 hg, (List.forall_mem_cons.mpr ⟨cv63 hg, (List.forall_mem_cons.mpr ⟨cv65 hg, (List.forall_mem_cons.mpr ⟨cv62 hg, (List.forall_mem_cons.mpr ⟨cv76 hg, (List.forall_mem_cons.mpr ⟨cv66 hg, (List.forall_mem_cons.mpr ⟨cv67 hg, (List.forall_mem_cons.mpr ⟨cv85 hg, (List.forall_mem_cons.mpr ⟨cv83 hg, (fun _ h => absurd h List.not_mem_nil)⟩)⟩)⟩)⟩)⟩)⟩)⟩)⟩)⟩)⟩)
/-- LotBeliefsModel.eachOf -/
def ct87 : sxCt := (217, 17, (3, [(1, .ofNat 0, .ofNat 4), (2, .ofNat 0, .ofNat 600)], [], [(0, .inl 78)], [], [(78, (0, .ofNat 8), .inr (false, (0, .ofNat 2))), (78, (0, .ofNat 5), .inr (false, (1, .ofNat 0))), (78, (0, .ofNat 4), .inr (false, (2, .ofNat 0)))], [], []), [(78, 5), (78, 6), (78, 7), (78, 9), (579, 5)], [
  (5, [(1, .ofNat 0, .ofNat 0), (2, .ofNat 0, .ofNat 599), (3, .negSucc 9223372036854775807, .ofNat 9223372036854775807), (4, .ofNat 1, .ofNat 600)], [(2, 4, .negSucc 0)], [], [.inr (true, (3, .ofNat 0))], [(78, (0, .ofNat 4), .inr (false, (4, .ofNat 0))), (78, (0, .ofNat 5), .inr (false, (0, .ofNat 0))), (78, (0, .ofNat 8), .inr (false, (0, .ofNat 2)))], [], []), 
  (6, [(3, .negSucc 9223372036854775807, .ofNat 9223372036854775807), (4, .ofNat 0, .ofNat 600), (5, .ofNat 1, .ofNat 4)], [(1, 5, .ofNat 0), (2, 4, .ofNat 0)], [], [.inr (true, (3, .ofNat 0))], [(78, (0, .ofNat 4), .inr (false, (4, .ofNat 0))), (78, (0, .ofNat 5), .inr (false, (5, .ofNat 0))), (78, (0, .ofNat 8), .inr (false, (0, .ofNat 2)))], [], [])], [], 0, 0)
def cu87 : List sxCu := [
  (5, (6, [(1, .ofNat 0, .ofNat 4), (2, .ofNat 0, .ofNat 600), (3, .negSucc 9223372036854775807, .ofNat 9223372036854775807), (4, .ofNat 0, .ofNat 600), (5, .ofNat 1, .ofNat 4)], [(1, 5, .ofNat 0), (2, 4, .ofNat 0)], [(0, .inl 78), (1, .inr (true, (3, .ofNat 0)))], [], [(78, (0, .ofNat 4), .inr (false, (4, .ofNat 0))), (78, (0, .ofNat 5), .inr (false, (5, .ofNat 0))), (78, (0, .ofNat 8), .inr (false, (0, .ofNat 2)))], [], []), ((0, 4, .ofNat 600), (0, 0, .ofNat 0), (0, 0, .ofNat 0)), 0, 0), 
  (5, (5, [(1, .ofNat 0, .ofNat 0), (2, .ofNat 0, .ofNat 599), (3, .negSucc 9223372036854775807, .ofNat 9223372036854775807), (4, .ofNat 1, .ofNat 600)], [(2, 4, .negSucc 0)], [(0, .inl 78), (1, .inr (true, (3, .ofNat 0)))], [], [(78, (0, .ofNat 4), .inr (false, (4, .ofNat 0))), (78, (0, .ofNat 5), .inr (false, (0, .ofNat 0))), (78, (0, .ofNat 8), .inr (false, (0, .ofNat 2)))], [], []), ((0, 4, .ofNat 600), (0, 0, .ofNat 0), (0, 0, .ofNat 0)), 0, 0)]
set_option maxRecDepth 1000000 in
theorem cv87 {gh : sxGh} (hg : sxGd sxKw gh) : sxCtV sxKw gh ct87 := sxMeB_ok (cts := [ct70, ct86]) (cuts := cu87) (sp := []) 100 (by decide +kernel) hg (by decide) (by decide) (List.forall_mem_cons.mpr ⟨cv70 hg, (List.forall_mem_cons.mpr ⟨cv86 hg, (fun _ h => absurd h List.not_mem_nil)⟩)⟩)
/-- LotBeliefsModel.anyOf -/
def ct88 : sxCt := (216, 18, (3, [(1, .ofNat 0, .ofNat 4), (2, .ofNat 0, .ofNat 600)], [], [(0, .inl 78)], [], [(78, (0, .ofNat 8), .inr (false, (0, .ofNat 2))), (78, (0, .ofNat 5), .inr (false, (1, .ofNat 0))), (78, (0, .ofNat 4), .inr (false, (2, .ofNat 0)))], [], []), [(78, 5), (78, 6), (78, 7), (78, 9), (579, 5)], [
  (6, [(3, .negSucc 9223372036854775807, .ofNat 9223372036854775807), (4, .ofNat 0, .ofNat 600), (5, .ofNat 1, .ofNat 4)], [(1, 5, .ofNat 0), (2, 4, .ofNat 0)], [], [.inr (true, (3, .ofNat 0))], [(78, (0, .ofNat 4), .inr (false, (4, .ofNat 0))), (78, (0, .ofNat 5), .inr (false, (5, .ofNat 0))), (78, (0, .ofNat 8), .inr (false, (0, .ofNat 2)))], [], []), 
  (5, [(1, .ofNat 0, .ofNat 0), (2, .ofNat 0, .ofNat 599), (3, .negSucc 9223372036854775807, .ofNat 9223372036854775807), (4, .ofNat 1, .ofNat 600)], [(2, 4, .negSucc 0)], [], [.inr (true, (3, .ofNat 0))], [(78, (0, .ofNat 4), .inr (false, (4, .ofNat 0))), (78, (0, .ofNat 5), .inr (false, (0, .ofNat 0))), (78, (0, .ofNat 8), .inr (false, (0, .ofNat 2)))], [], [])], [], 0, 0)
def cu88 : List sxCu := [
  (5, (6, [(1, .ofNat 0, .ofNat 4), (2, .ofNat 0, .ofNat 600), (3, .negSucc 9223372036854775807, .ofNat 9223372036854775807), (4, .ofNat 0, .ofNat 600), (5, .ofNat 1, .ofNat 4)], [(1, 5, .ofNat 0), (2, 4, .ofNat 0)], [(0, .inl 78), (1, .inr (true, (3, .ofNat 0)))], [], [(78, (0, .ofNat 4), .inr (false, (4, .ofNat 0))), (78, (0, .ofNat 5), .inr (false, (5, .ofNat 0))), (78, (0, .ofNat 8), .inr (false, (0, .ofNat 2)))], [], []), ((0, 4, .ofNat 600), (0, 0, .ofNat 0), (0, 0, .ofNat 0)), 0, 0), 
  (5, (5, [(1, .ofNat 0, .ofNat 0), (2, .ofNat 0, .ofNat 599), (3, .negSucc 9223372036854775807, .ofNat 9223372036854775807), (4, .ofNat 1, .ofNat 600)], [(2, 4, .negSucc 0)], [(0, .inl 78), (1, .inr (true, (3, .ofNat 0)))], [], [(78, (0, .ofNat 4), .inr (false, (4, .ofNat 0))), (78, (0, .ofNat 5), .inr (false, (0, .ofNat 0))), (78, (0, .ofNat 8), .inr (false, (0, .ofNat 2)))], [], []), ((0, 4, .ofNat 600), (0, 0, .ofNat 0), (0, 0, .ofNat 0)), 0, 0)]
set_option maxRecDepth 1000000 in
theorem cv88 {gh : sxGh} (hg : sxGd sxKw gh) : sxCtV sxKw gh ct88 := sxMeB_ok (cts := [ct73, ct87]) (cuts := cu88) (sp := []) 100 (by decide +kernel) hg (by decide) (by decide) (List.forall_mem_cons.mpr ⟨cv73 hg, (List.forall_mem_cons.mpr ⟨cv87 hg, (fun _ h => absurd h List.not_mem_nil)⟩)⟩)
/-- LotBeliefsModel.oneOf -/
def ct89 : sxCt := (218, 19, (3, [(1, .ofNat 0, .ofNat 4), (2, .ofNat 0, .ofNat 600)], [], [(0, .inl 78)], [], [(78, (0, .ofNat 8), .inr (false, (0, .ofNat 1))), (78, (0, .ofNat 5), .inr (false, (1, .ofNat 0))), (78, (0, .ofNat 4), .inr (false, (2, .ofNat 0)))], [], []), [(78, 5), (78, 6), (78, 7), (78, 9), (579, 5)], [
  (6, [(3, .negSucc 9223372036854775807, .ofNat 9223372036854775807), (4, .ofNat 0, .ofNat 600), (5, .ofNat 1, .ofNat 4)], [(1, 5, .ofNat 0), (2, 4, .ofNat 0)], [], [.inr (true, (3, .ofNat 0))], [(78, (0, .ofNat 4), .inr (false, (4, .ofNat 0))), (78, (0, .ofNat 5), .inr (false, (5, .ofNat 0))), (78, (0, .ofNat 8), .inr (false, (0, .ofNat 1)))], [], []), 
  (5, [(1, .ofNat 0, .ofNat 0), (2, .ofNat 0, .ofNat 599), (3, .negSucc 9223372036854775807, .ofNat 9223372036854775807), (4, .ofNat 1, .ofNat 600)], [(2, 4, .negSucc 0)], [], [.inr (true, (3, .ofNat 0))], [(78, (0, .ofNat 4), .inr (false, (4, .ofNat 0))), (78, (0, .ofNat 5), .inr (false, (0, .ofNat 0))), (78, (0, .ofNat 8), .inr (false, (0, .ofNat 1)))], [], [])], [], 0, 0)
def cu89 : List sxCu := []
set_option maxRecDepth 1000000 in
theorem cv89 {gh : sxGh} (hg : sxGd sxKw gh) : sxCtV sxKw gh ct89 := sxMeB_ok (cts := [ct59, ct61, ct63, ct65, ct62, ct76, ct66, ct67, ct88, ct86]) (cuts := cu89) (sp := []) 1605 (by decide +kernel) hg (by decide) (by decide) (List.forall_mem_cons.mpr ⟨cv59 hg, (List.forall_mem_cons.mpr ⟨cv61 hg, (List.forall_mem_cons.mpr ⟨cv63 hg, (List.forall_mem_cons.mpr ⟨cv65 hg, (List.forall_mem_cons.mpr ⟨cv62 hg, (List.forall_mem_cons.mpr ⟨cv76 hg, (List.forall_mem_cons.mpr ⟨cv66 hg, (List.forall_mem_cons.mpr ⟨cv67 hg, (List.forall_mem_cons.mpr ⟨cv88 hg, (List.forall_mem_cons.mpr ⟨cv86 hg, (fun _ h => absurd h List.not_mem_nil)⟩)⟩)⟩)⟩)⟩)⟩)⟩)⟩)⟩)⟩)
/-- LotBeliefsModel.eachOf -/
def ct90 : sxCt := (217, 20, (3, [(1, .ofNat 0, .ofNat 4), (2, .ofNat 0, .ofNat 600)], [], [(0, .inl 78)], [], [(78, (0, .ofNat 8), .inr (false, (0, .ofNat 1))), (78, (0, .ofNat 5), .inr (false, (1, .ofNat 0))), (78, (0, .ofNat 4), .inr (false, (2, .ofNat 0)))], [], []), [(78, 5), (78, 6), (78, 7), (78, 9), (579, 5)], [
  (5, [(1, .ofNat 0, .ofNat 0), (2, .ofNat 0, .ofNat 599), (3, .negSucc 9223372036854775807, .ofNat 9223372036854775807), (4, .ofNat 1, .ofNat 600)], [(2, 4, .negSucc 0)], [], [.inr (true, (3, .ofNat 0))], [(78, (0, .ofNat 4), .inr (false, (4, .ofNat 0))), (78, (0, .ofNat 5), .inr (false, (0, .ofNat 0))), (78, (0, .ofNat 8), .inr (false, (0, .ofNat 1)))], [], []), 
  (6, [(3, .negSucc 9223372036854775807, .ofNat 9223372036854775807), (4, .ofNat 0, .ofNat 600), (5, .ofNat 1, .ofNat 4)], [(1, 5, .ofNat 0), (2, 4, .ofNat 0)], [], [.inr (true, (3, .ofNat 0))], [(78, (0, .ofNat 4), .inr (false, (4, .ofNat 0))), (78, (0, .ofNat 5), .inr (false, (5, .ofNat 0))), (78, (0, .ofNat 8), .inr (false, (0, .ofNat 1)))], [], [])], [], 0, 0)
def cu90 : List sxCu := [
  (5, (6, [(1, .ofNat 0, .ofNat 4), (2, .ofNat 0, .ofNat 600), (3, .negSucc 9223372036854775807, .ofNat 9223372036854775807), (4, .ofNat 0, .ofNat 600), (5, .ofNat 1, .ofNat 4)], [(1, 5, .ofNat 0), (2, 4, .ofNat 0)], [(0, .inl 78), (1, .inr (true, (3, .ofNat 0)))], [], [(78, (0, .ofNat 4), .inr (false, (4, .ofNat 0))), (78, (0, .ofNat 5), .inr (false, (5, .ofNat 0))), (78, (0, .ofNat 8), .inr (false, (0, .ofNat 1)))], [], []), ((0, 4, .ofNat 600), (0, 0, .ofNat 0), (0, 0, .ofNat 0)), 0, 0), 
  (5, (5, [(1, .ofNat 0, .ofNat 0), (2, .ofNat 0, .ofNat 599), (3, .negSucc 9223372036854775807, .ofNat 9223372036854775807), (4, .ofNat 1, .ofNat 600)], [(2, 4, .negSucc 0)], [(0, .inl 78), (1, .inr (true, (3, .ofNat 0)))], [], [(78, (0, .ofNat 4), .inr (false, (4, .ofNat 0))), (78, (0, .ofNat 5), .inr (false, (0, .ofNat 0))), (78, (0, .ofNat 8), .inr (false, (0, .ofNat 1)))], [], []), ((0, 4, .ofNat 600), (0, 0, .ofNat 0), (0, 0, .ofNat 0)), 0, 0)]
set_option maxRecDepth 1000000 in
theorem cv90 {gh : sxGh} (hg : sxGd sxKw gh) : sxCtV sxKw gh ct90 := sxMeB_ok (cts := [ct70, ct89]) (cuts := cu90) (sp := []) 100 (by decide +kernel) hg (by decide) (by decide) (List.forall_mem_cons.mpr ⟨cv70 hg, (List.forall_mem_cons.mpr ⟨cv89 hg, (fun _ h => absurd h List.not_mem_nil)⟩)⟩)
/-- LotBeliefsModel.anyOf -/
def ct91 : sxCt := (216, 21, (3, [(1, .ofNat 0, .ofNat 4), (2, .ofNat 0, .ofNat 600)], [], [(0, .inl 78)], [], [(78, (0, .ofNat 8), .inr (false, (0, .ofNat 1))), (78, (0, .ofNat 5), .inr (false, (1, .ofNat 0))), (78, (0, .ofNat 4), .inr (false, (2, .ofNat 0)))], [], []), [(78, 5), (78, 6), (78, 7), (78, 9), (579, 5)], [
  (6, [(3, .negSucc 9223372036854775807, .ofNat 9223372036854775807), (4, .ofNat 0, .ofNat 600), (5, .ofNat 1, .ofNat 4)], [(1, 5, .ofNat 0), (2, 4, .ofNat 0)], [], [.inr (true, (3, .ofNat 0))], [(78, (0, .ofNat 4), .inr (false, (4, .ofNat 0))), (78, (0, .ofNat 5), .inr (false, (5, .ofNat 0))), (78, (0, .ofNat 8), .inr (false, (0, .ofNat 1)))], [], []), 
  (5, [(1, .ofNat 0, .ofNat 0), (2, .ofNat 0, .ofNat 599), (3, .negSucc 9223372036854775807, .ofNat 9223372036854775807), (4, .ofNat 1, .ofNat 600)], [(2, 4, .negSucc 0)], [], [.inr (true, (3, .ofNat 0))], [(78, (0, .ofNat 4), .inr (false, (4, .ofNat 0))), (78, (0, .ofNat 5), .inr (false, (0, .ofNat 0))), (78, (0, .ofNat 8), .inr (false, (0, .ofNat 1)))], [], [])], [], 0, 0)
def cu91 : List sxCu := [
  (5, (6, [(1, .ofNat 0, .ofNat 4), (2, .ofNat 0, .ofNat 600), (3, .negSucc 9223372036854775807, .ofNat 9223372036854775807), (4, .ofNat 0, .ofNat 600), (5, .ofNat 1, .ofNat 4)], [(1, 5, .ofNat 0), (2, 4, .ofNat 0)], [(0, .inl 78), (1, .inr (true, (3, .ofNat 0)))], [], [(78, (0, .ofNat 4), .inr (false, (4, .ofNat 0))), (78, (0, .ofNat 5), .inr (false, (5, .ofNat 0))), (78, (0, .ofNat 8), .inr (false, (0, .ofNat 1)))], [], []), ((0, 4, .ofNat 600), (0, 0, .ofNat 0), (0, 0, .ofNat 0)), 0, 0), 
  (5, (5, [(1, .ofNat 0, .ofNat 0), (2, .ofNat 0, .ofNat 599), (3, .negSucc 9223372036854775807, .ofNat 9223372036854775807), (4, .ofNat 1, .ofNat 600)], [(2, 4, .negSucc 0)], [(0, .inl 78), (1, .inr (true, (3, .ofNat 0)))], [], [(78, (0, .ofNat 4), .inr (false, (4, .ofNat 0))), (78, (0, .ofNat 5), .inr (false, (0, .ofNat 0))), (78, (0, .ofNat 8), .inr (false, (0, .ofNat 1)))], [], []), ((0, 4, .ofNat 600), (0, 0, .ofNat 0), (0, 0, .ofNat 0)), 0, 0)]
set_option maxRecDepth 1000000 in
theorem cv91 {gh : sxGh} (hg : sxGd sxKw gh) : sxCtV sxKw gh ct91 := sxMeB_ok (cts := [ct73, ct90]) (cuts := cu91) (sp := []) 100 (by decide +kernel) hg (by decide) (by decide) (List.forall_mem_cons.mpr ⟨cv73 hg, (List.forall_mem_cons.mpr ⟨cv90 hg, (fun _ h => absurd h List.not_mem_nil)⟩)⟩)
/-- LotBeliefsModel.oneOf -/
def ct92 : sxCt := (218, 22, (3, [(1, .ofNat 0, .ofNat 4), (2, .ofNat 0, .ofNat 600)], [], [(0, .inl 78)], [], [(78, (0, .ofNat 8), .inr (false, (0, .ofNat 0))), (78, (0, .ofNat 5), .inr (false, (1, .ofNat 0))), (78, (0, .ofNat 4), .inr (false, (2, .ofNat 0)))], [], []), [(78, 5), (78, 6), (78, 7), (78, 9), (579, 5)], [
  (6, [(3, .negSucc 9223372036854775807, .ofNat 9223372036854775807), (4, .ofNat 0, .ofNat 600), (5, .ofNat 1, .ofNat 4)], [(1, 5, .ofNat 0), (2, 4, .ofNat 0)], [], [.inr (true, (3, .ofNat 0))], [(78, (0, .ofNat 4), .inr (false, (4, .ofNat 0))), (78, (0, .ofNat 5), .inr (false, (5, .ofNat 0))), (78, (0, .ofNat 8), .inr (false, (0, .ofNat 0)))], [], []), 
  (5, [(1, .ofNat 0, .ofNat 0), (2, .ofNat 0, .ofNat 599), (3, .negSucc 9223372036854775807, .ofNat 9223372036854775807), (4, .ofNat 1, .ofNat 600)], [(2, 4, .negSucc 0)], [], [.inr (true, (3, .ofNat 0))], [(78, (0, .ofNat 4), .inr (false, (4, .ofNat 0))), (78, (0, .ofNat 5), .inr (false, (0, .ofNat 0))), (78, (0, .ofNat 8), .inr (false, (0, .ofNat 0)))], [], [])], [], 0, 0)
def cu92 : List sxCu := []
set_option maxRecDepth 1000000 in
theorem cv92 {gh : sxGh} (hg : sxGd sxKw gh) : sxCtV sxKw gh ct92 := sxMeB_ok (cts := [ct59, ct61, ct63, ct65, ct62, ct76, ct66, ct67, ct91, ct89]) (cuts := cu92) (sp := []) 1605 (by decide +kernel) hg (by decide) (by decide) (List.forall_mem_cons.mpr ⟨cv59 hg, (List.forall_mem_cons.mpr ⟨cv61 hg, (List.forall_mem_cons.mpr ⟨cv63 hg, (List.forall_mem_cons.mpr ⟨cv65 hg, (List.forall_mem_cons.mpr ⟨cv62 hg, (List.forall_mem_cons.mpr ⟨cv76 hg, (List.forall_mem_cons.mpr ⟨cv66 hg, (List.forall_mem_cons.mpr ⟨cv67 hg, (List.forall_mem_cons.mpr ⟨cv91 hg, (List.forall_mem_cons.mpr ⟨cv89 hg, (fun _ h => absurd h List.not_mem_nil)⟩)⟩)⟩)⟩)⟩)⟩)⟩)⟩)⟩)⟩)
/-- LotBeliefsModel.eachOf -/
def ct93 : sxCt := (217, 23, (3, [(1, .ofNat 0, .ofNat 4), (2, .ofNat 0, .ofNat 600)], [], [(0, .inl 78)], [], [(78, (0, .ofNat 8), .inr (false, (0, .ofNat 0))), (78, (0, .ofNat 5), .inr (false, (1, .ofNat 0))), (78, (0, .ofNat 4), .inr (false, (2, .ofNat 0)))], [], []), [(78, 5), (78, 6), (78, 7), (78, 9), (579, 5)], [
  (5, [(1, .ofNat 0, .ofNat 0), (2, .ofNat 0, .ofNat 599), (3, .negSucc 9223372036854775807, .ofNat 9223372036854775807), (4, .ofNat 1, .ofNat 600)], [(2, 4, .negSucc 0)], [], [.inr (true, (3, .ofNat 0))], [(78, (0, .ofNat 4), .inr (false, (4, .ofNat 0))), (78, (0, .ofNat 5), .inr (false, (0, .ofNat 0))), (78, (0, .ofNat 8), .inr (false, (0, .ofNat 0)))], [], []), 
  (6, [(3, .negSucc 9223372036854775807, .ofNat 9223372036854775807), (4, .ofNat 0, .ofNat 600), (5, .ofNat 1, .ofNat 4)], [(1, 5, .ofNat 0), (2, 4, .ofNat 0)], [], [.inr (true, (3, .ofNat 0))], [(78, (0, .ofNat 4), .inr (false, (4, .ofNat 0))), (78, (0, .ofNat 5), .inr (false, (5, .ofNat 0))), (78, (0, .ofNat 8), .inr (false, (0, .ofNat 0)))], [], [])], [], 0, 0)
def cu93 : List sxCu := [
  (5, (6, [(1, .ofNat 0, .ofNat 4), (2, .ofNat 0, .ofNat 600), (3, .negSucc 9223372036854775807, .ofNat 9223372036854775807), (4, .ofNat 0, .ofNat 600), (5, .ofNat 1, .ofNat 4)], [(1, 5, .ofNat 0), (2, 4, .ofNat 0)], [(0, .inl 78), (1, .inr (true, (3, .ofNat 0)))], [], [(78, (0, .ofNat 4), .inr (false, (4, .ofNat 0))), (78, (0, .ofNat 5), .inr (false, (5, .ofNat 0))), (78, (0, .ofNat 8), .inr (false, (0, .ofNat 0)))], [], []), ((0, 4, .ofNat 600), (0, 0, .ofNat 0), (0, 0, .ofNat 0)), 0, 0), 
  (5, (5, [(1, .ofNat 0, .ofNat 0), (2, .ofNat 0, .ofNat 599), (3, .negSucc 9223372036854775807, .ofNat 9223372036854775807), (4, .ofNat 1, .ofNat 600)], [(2, 4, .negSucc 0)], [(0, .inl 78), (1, .inr (true, (3, .ofNat 0)))], [], [(78, (0, .ofNat 4), .inr (false, (4, .ofNat 0))), (78, (0, .ofNat 5), .inr (false, (0, .ofNat 0))), (78, (0, .ofNat 8), .inr (false, (0, .ofNat 0)))], [], []), ((0, 4, .ofNat 600), (0, 0, .ofNat 0), (0, 0, .ofNat 0)), 0, 0)]
set_option maxRecDepth 1000000 in
theorem cv93 {gh : sxGh} (hg : sxGd sxKw gh) : sxCtV sxKw gh ct93 := sxMeB_ok (cts := [ct70, ct92]) (cuts := cu93) (sp := []) 100 (by decide +kernel) hg (by decide) (by decide) (List.forall_mem_cons.mpr ⟨cv70 hg, (List.forall_mem_cons.mpr ⟨cv92 hg, (fun _ h => absurd h List.not_mem_nil)⟩)⟩)
/-- LotBeliefsModel.anyOf -/
def ct94 : sxCt := (216, 24, (3, [(1, .ofNat 0, .ofNat 4), (2, .ofNat 0, .ofNat 600)], [], [(0, .inl 78)], [], [(78, (0, .ofNat 8), .inr (false, (0, .ofNat 0))), (78, (0, .ofNat 5), .inr (false, (1, .ofNat 0))), (78, (0, .ofNat 4), .inr (false, (2, .ofNat 0)))], [], []), [(78, 5), (78, 6), (78, 7), (78, 9), (579, 5)], [
  (6, [(3, .negSucc 9223372036854775807, .ofNat 9223372036854775807), (4, .ofNat 0, .ofNat 600), (5, .ofNat 1, .ofNat 4)], [(1, 5, .ofNat 0), (2, 4, .ofNat 0)], [], [.inr (true, (3, .ofNat 0))], [(78, (0, .ofNat 4), .inr (false, (4, .ofNat 0))), (78, (0, .ofNat 5), .inr (false, (5, .ofNat 0))), (78, (0, .ofNat 8), .inr (false, (0, .ofNat 0)))], [], []), 
  (5, [(1, .ofNat 0, .ofNat 0), (2, .ofNat 0, .ofNat 599), (3, .negSucc 9223372036854775807, .ofNat 9223372036854775807), (4, .ofNat 1, .ofNat 600)], [(2, 4, .negSucc 0)], [], [.inr (true, (3, .ofNat 0))], [(78, (0, .ofNat 4), .inr (false, (4, .ofNat 0))), (78, (0, .ofNat 5), .inr (false, (0, .ofNat 0))), (78, (0, .ofNat 8), .inr (false, (0, .ofNat 0)))], [], [])], [], 0, 0)
def cu94 : List sxCu := [
  (5, (6, [(1, .ofNat 0, .ofNat 4), (2, .ofNat 0, .ofNat 600), (3, .negSucc 9223372036854775807, .ofNat 9223372036854775807), (4, .ofNat 0, .ofNat 600), (5, .ofNat 1, .ofNat 4)], [(1, 5, .ofNat 0), (2, 4, .ofNat 0)], [(0, .inl 78), (1, .inr (true, (3, .ofNat 0)))], [], [(78, (0, .ofNat 4), .inr (false, (4, .ofNat 0))), (78, (0, .ofNat 5), .inr (false, (5, .ofNat 0))), (78, (0, .ofNat 8), .inr (false, (0, .ofNat 0)))], [], []), ((0, 4, .ofNat 600), (0, 0, .ofNat 0), (0, 0, .ofNat 0)), 0, 0), 
  (5, (5, [(1, .ofNat 0, .ofNat 0), (2, .ofNat 0, .ofNat 599), (3, .negSucc 9223372036854775807, .ofNat 9223372036854775807), (4, .ofNat 1, .ofNat 600)], [(2, 4, .negSucc 0)], [(0, .inl 78), (1, .inr (true, (3, .ofNat 0)))], [], [(78, (0, .ofNat 4), .inr (false, (4, .ofNat 0))), (78, (0, .ofNat 5), .inr (false, (0, .ofNat 0))), (78, (0, .ofNat 8), .inr (false, (0, .ofNat 0)))], [], []), ((0, 4, .ofNat 600), (0, 0, .ofNat 0), (0, 0, .ofNat 0)), 0, 0)]
set_option maxRecDepth 1000000 in
theorem cv94 {gh : sxGh} (hg : sxGd sxKw gh) : sxCtV sxKw gh ct94 := sxMeB_ok (cts := [ct73, ct93]) (cuts := cu94) (sp := []) 100 (by decide +kernel) hg (by decide) (by decide) (List.forall_mem_cons.mpr ⟨cv73 hg, (List.forall_mem_cons.mpr ⟨cv93 hg, (fun _ h => absurd h List.not_mem_nil)⟩)⟩)
/-- Long.bitCount -/
def ct95 : sxCt := (328, 0, (2, [(1, .negSucc 9223372036854775807, .ofNat 9223372036854775807)], [], [(0, .inr (true, (1, .ofNat 0)))], [], [], [], []), [], [
  (3, [(2, .ofNat 0, .ofNat 127)], [], [], [.inr (false, (2, .ofNat 0))], [], [], [])], [], 0, 0)
def cu95 : List sxCu := []
set_option maxRecDepth 1000000 in
theorem cv95 {gh : sxGh} (hg : sxGd sxKw gh) : sxCtV sxKw gh ct95 := sxMeB_ok (cts := []) (cuts := cu95) (sp := []) 109 (by decide +kernel) hg (by decide) (by decide) (fun _ h => absurd h List.not_mem_nil)
/-- LotBeliefs.Tape.isWord -/
def ct96 : sxCt := (85, 0, (1, [], [], [(0, .inl 1), (1, .inl 1000012)], [], [], [], []), [], [
  (1, [], [], [], [.inr (false, (0, .ofNat 0))], [], [], []), 
  (1, [], [], [], [.inr (false, (0, .ofNat 1))], [], [], [])], [], 0, 0)
def cu96 : List sxCu := []
set_option maxRecDepth 1000000 in
theorem cv96 {gh : sxGh} (hg : sxGd sxKw gh) : sxCtV sxKw gh ct96 := sxMeB_ok (cts := []) (cuts := cu96) (sp := []) 204 (by decide +kernel) hg (by decide) (by decide) (fun _ h => absurd h List.not_mem_nil)
/-- LotBeliefs.Tape.isWord -/
def ct97 : sxCt := (85, 0, (1, [], [], [(0, .inl 1), (1, .inl 1000015)], [], [], [], []), [], [
  (1, [], [], [], [.inr (false, (0, .ofNat 0))], [], [], []), 
  (1, [], [], [], [.inr (false, (0, .ofNat 1))], [], [], [])], [], 0, 0)
def cu97 : List sxCu := []
set_option maxRecDepth 1000000 in
theorem cv97 {gh : sxGh} (hg : sxGd sxKw gh) : sxCtV sxKw gh ct97 := sxMeB_ok (cts := []) (cuts := cu97) (sp := []) 174 (by decide +kernel) hg (by decide) (by decide) (fun _ h => absurd h List.not_mem_nil)
/-- LotBeliefs.Tape.isWord -/
def ct98 : sxCt := (85, 0, (1, [], [], [(0, .inl 1), (1, .inl 1000016)], [], [], [], []), [], [
  (1, [], [], [], [.inr (false, (0, .ofNat 0))], [], [], []), 
  (1, [], [], [], [.inr (false, (0, .ofNat 1))], [], [], [])], [], 0, 0)
def cu98 : List sxCu := []
set_option maxRecDepth 1000000 in
theorem cv98 {gh : sxGh} (hg : sxGd sxKw gh) : sxCtV sxKw gh ct98 := sxMeB_ok (cts := []) (cuts := cu98) (sp := []) 174 (by decide +kernel) hg (by decide) (by decide) (fun _ h => absurd h List.not_mem_nil)
/-- LotBeliefs.Tape.isWord -/
def ct99 : sxCt := (85, 0, (1, [], [], [(0, .inl 1), (1, .inl 1000017)], [], [], [], []), [], [
  (1, [], [], [], [.inr (false, (0, .ofNat 0))], [], [], []), 
  (1, [], [], [], [.inr (false, (0, .ofNat 1))], [], [], [])], [], 0, 0)
def cu99 : List sxCu := []
set_option maxRecDepth 1000000 in
theorem cv99 {gh : sxGh} (hg : sxGd sxKw gh) : sxCtV sxKw gh ct99 := sxMeB_ok (cts := []) (cuts := cu99) (sp := []) 234 (by decide +kernel) hg (by decide) (by decide) (fun _ h => absurd h List.not_mem_nil)
/-- LotBeliefs.Tape.isWord -/
def ct100 : sxCt := (85, 0, (1, [], [], [(0, .inl 1), (1, .inl 1000018)], [], [], [], []), [], [
  (1, [], [], [], [.inr (false, (0, .ofNat 0))], [], [], []), 
  (1, [], [], [], [.inr (false, (0, .ofNat 1))], [], [], [])], [], 0, 0)
def cu100 : List sxCu := []
set_option maxRecDepth 1000000 in
theorem cv100 {gh : sxGh} (hg : sxGd sxKw gh) : sxCtV sxKw gh ct100 := sxMeB_ok (cts := []) (cuts := cu100) (sp := []) 204 (by decide +kernel) hg (by decide) (by decide) (fun _ h => absurd h List.not_mem_nil)
/-- LotBeliefs.Tape.isWord -/
def ct101 : sxCt := (85, 0, (1, [], [], [(0, .inl 1), (1, .inl 1000019)], [], [], [], []), [], [
  (1, [], [], [], [.inr (false, (0, .ofNat 0))], [], [], []), 
  (1, [], [], [], [.inr (false, (0, .ofNat 1))], [], [], [])], [], 0, 0)
def cu101 : List sxCu := []
set_option maxRecDepth 1000000 in
theorem cv101 {gh : sxGh} (hg : sxGd sxKw gh) : sxCtV sxKw gh ct101 := sxMeB_ok (cts := []) (cuts := cu101) (sp := []) 204 (by decide +kernel) hg (by decide) (by decide) (fun _ h => absurd h List.not_mem_nil)
/-- LotBeliefs.Tape.isWord -/
def ct102 : sxCt := (85, 0, (1, [], [], [(0, .inl 1), (1, .inl 1000020)], [], [], [], []), [], [
  (1, [], [], [], [.inr (false, (0, .ofNat 0))], [], [], []), 
  (1, [], [], [], [.inr (false, (0, .ofNat 1))], [], [], [])], [], 0, 0)
def cu102 : List sxCu := []
set_option maxRecDepth 1000000 in
theorem cv102 {gh : sxGh} (hg : sxGd sxKw gh) : sxCtV sxKw gh ct102 := sxMeB_ok (cts := []) (cuts := cu102) (sp := []) 204 (by decide +kernel) hg (by decide) (by decide) (fun _ h => absurd h List.not_mem_nil)
/-- LotBeliefs.Tape.isWord -/
def ct103 : sxCt := (85, 0, (1, [], [], [(0, .inl 1), (1, .inl 1000021)], [], [], [], []), [], [
  (1, [], [], [], [.inr (false, (0, .ofNat 0))], [], [], []), 
  (1, [], [], [], [.inr (false, (0, .ofNat 1))], [], [], [])], [], 0, 0)
def cu103 : List sxCu := []
set_option maxRecDepth 1000000 in
theorem cv103 {gh : sxGh} (hg : sxGd sxKw gh) : sxCtV sxKw gh ct103 := sxMeB_ok (cts := []) (cuts := cu103) (sp := []) 204 (by decide +kernel) hg (by decide) (by decide) (fun _ h => absurd h List.not_mem_nil)
/-- LotBeliefs.Tape.isWord -/
def ct104 : sxCt := (85, 0, (1, [], [], [(0, .inl 1), (1, .inl 1000022)], [], [], [], []), [], [
  (1, [], [], [], [.inr (false, (0, .ofNat 0))], [], [], []), 
  (1, [], [], [], [.inr (false, (0, .ofNat 1))], [], [], [])], [], 0, 0)
def cu104 : List sxCu := []
set_option maxRecDepth 1000000 in
theorem cv104 {gh : sxGh} (hg : sxGd sxKw gh) : sxCtV sxKw gh ct104 := sxMeB_ok (cts := []) (cuts := cu104) (sp := []) 204 (by decide +kernel) hg (by decide) (by decide) (fun _ h => absurd h List.not_mem_nil)
/-- LotBeliefs.Tape.isWord -/
def ct105 : sxCt := (85, 0, (1, [], [], [(0, .inl 1), (1, .inl 1000023)], [], [], [], []), [], [
  (1, [], [], [], [.inr (false, (0, .ofNat 0))], [], [], []), 
  (1, [], [], [], [.inr (false, (0, .ofNat 1))], [], [], [])], [], 0, 0)
def cu105 : List sxCu := []
set_option maxRecDepth 1000000 in
theorem cv105 {gh : sxGh} (hg : sxGd sxKw gh) : sxCtV sxKw gh ct105 := sxMeB_ok (cts := []) (cuts := cu105) (sp := []) 204 (by decide +kernel) hg (by decide) (by decide) (fun _ h => absurd h List.not_mem_nil)
/-- LotBeliefs.Tape.isWord -/
def ct106 : sxCt := (85, 0, (1, [], [], [(0, .inl 1), (1, .inl 1000024)], [], [], [], []), [], [
  (1, [], [], [], [.inr (false, (0, .ofNat 0))], [], [], []), 
  (1, [], [], [], [.inr (false, (0, .ofNat 1))], [], [], [])], [], 0, 0)
def cu106 : List sxCu := []
set_option maxRecDepth 1000000 in
theorem cv106 {gh : sxGh} (hg : sxGd sxKw gh) : sxCtV sxKw gh ct106 := sxMeB_ok (cts := []) (cuts := cu106) (sp := []) 204 (by decide +kernel) hg (by decide) (by decide) (fun _ h => absurd h List.not_mem_nil)
/-- LotBeliefs.Tape.isWord -/
def ct107 : sxCt := (85, 0, (1, [], [], [(0, .inl 1), (1, .inl 1000025)], [], [], [], []), [], [
  (1, [], [], [], [.inr (false, (0, .ofNat 0))], [], [], []), 
  (1, [], [], [], [.inr (false, (0, .ofNat 1))], [], [], [])], [], 0, 0)
def cu107 : List sxCu := []
set_option maxRecDepth 1000000 in
theorem cv107 {gh : sxGh} (hg : sxGd sxKw gh) : sxCtV sxKw gh ct107 := sxMeB_ok (cts := []) (cuts := cu107) (sp := []) 264 (by decide +kernel) hg (by decide) (by decide) (fun _ h => absurd h List.not_mem_nil)
/-- LotBeliefs.TongueReader.quantityHere -/
def ct108 : sxCt := (111, 1, (1, [], [], [(0, .inl 1)], [], [], [], []), [], [
  (2, [(1, .negSucc 0, .ofNat 9)], [], [], [.inr (false, (1, .ofNat 0))], [], [], [])], [], 0, 0)
def cu108 : List sxCu := []
set_option maxRecDepth 1000000 in
theorem cv108 {gh : sxGh} (hg : sxGd sxKw gh) : sxCtV sxKw gh ct108 := sxMeB_ok (cts := [ct98, ct99, ct100, ct101, ct102, ct103, ct104, ct105, ct106, ct107]) (cuts := cu108) (sp := []) 143 (by decide +kernel) hg (by decide) (by decide) (List.forall_mem_cons.mpr ⟨cv98 hg, (List.forall_mem_cons.mpr ⟨cv99 hg, (List.forall_mem_cons.mpr ⟨cv100 hg, (List.forall_mem_cons.mpr ⟨cv101 hg, (List.forall_mem_cons.mpr ⟨cv102 hg, (List.forall_mem_cons.mpr ⟨cv103 hg, (List.forall_mem_cons.mpr ⟨cv104 hg, (List.forall_mem_cons.mpr ⟨cv105 hg, (List.forall_mem_cons.mpr ⟨cv106 hg, (List.forall_mem_cons.mpr ⟨cv107 hg, (fun _ h => absurd h List.not_mem_nil)⟩)⟩)⟩)⟩)⟩)⟩)⟩)⟩)⟩)⟩)
/-- LotBeliefs.TongueReader.readValue -/
def ct109 : sxCt := (110, 2, (1, [], [], [(0, .inl 1), (1, .inl 23)], [], [(1, (0, .ofNat 7), .inr (false, (0, .ofNat 6)))], [], []), [(1, 4), (1, 5), (1, 6), (1, 7), (1, 9), (1, 10), (23, 3), (24, 0)], [
  (2, [(1, .ofNat 0, .ofNat 4)], [], [], [], [(1, (0, .ofNat 3), .inr (false, (1, .ofNat 0))), (1, (0, .ofNat 7), .inr (false, (0, .ofNat 6)))], [], [])], [], 0, 0)
def cu109 : List sxCu := []
set_option maxRecDepth 1000000 in
theorem cv109 {gh : sxGh} (hg : sxGd sxKw gh) : sxCtV sxKw gh ct109 := sxMeB_ok (cts := [ct2, ct108]) (cuts := cu109) (sp := []) 476 (by decide +kernel) hg (by decide) (by decide) (List.forall_mem_cons.mpr ⟨cv2 hg, (List.forall_mem_cons.mpr ⟨cv108 hg, (fun _ h => absurd h List.not_mem_nil)⟩)⟩)
/-- LotBeliefs.TongueReader.readProduct -/
def ct110 : sxCt := (109, 3, (1, [], [], [(0, .inl 1), (1, .inl 23)], [], [(1, (0, .ofNat 7), .inr (false, (0, .ofNat 6)))], [], []), [(1, 4), (1, 5), (1, 6), (1, 7), (1, 9), (1, 10), (23, 3), (24, 0)], [
  (2, [(1, .ofNat 0, .ofNat 4)], [], [], [], [(1, (0, .ofNat 3), .inr (false, (1, .ofNat 0))), (1, (0, .ofNat 7), .inr (false, (0, .ofNat 6)))], [], [])], [], 0, 0)
def cu110 : List sxCu := [
  (7, (3, [(1, .ofNat 0, .ofNat 200), (2, .ofNat 0, .ofNat 4)], [], [(0, .inl 1), (1, .inl 23), (2, .inr (false, (1, .ofNat 0)))], [], [(1, (0, .ofNat 3), .inr (false, (2, .ofNat 0))), (1, (0, .ofNat 7), .inr (false, (0, .ofNat 6)))], [], []), ((0, 1, .ofNat 200), (0, 0, .ofNat 0), (0, 0, .ofNat 0)), 0, 0)]
set_option maxRecDepth 1000000 in
theorem cv110 {gh : sxGh} (hg : sxGd sxKw gh) : sxCtV sxKw gh ct110 := sxMeB_ok (cts := [ct2, ct109]) (cuts := cu110) (sp := []) 127 (by decide +kernel) hg (by decide) (by decide) (List.forall_mem_cons.mpr ⟨cv2 hg, (List.forall_mem_cons.mpr ⟨cv109 hg, (fun _ h => absurd h List.not_mem_nil)⟩)⟩)
/-- LotBeliefs.TongueReader.readSum -/
def ct111 : sxCt := (108, 4, (1, [], [], [(0, .inl 1), (1, .inl 23)], [], [(1, (0, .ofNat 7), .inr (false, (0, .ofNat 6)))], [], []), [(1, 4), (1, 5), (1, 6), (1, 7), (1, 9), (1, 10), (23, 3), (24, 0)], [
  (2, [(1, .ofNat 0, .ofNat 4)], [], [], [], [(1, (0, .ofNat 3), .inr (false, (1, .ofNat 0))), (1, (0, .ofNat 7), .inr (false, (0, .ofNat 6)))], [], [])], [], 0, 0)
def cu111 : List sxCu := [
  (7, (3, [(1, .ofNat 0, .ofNat 200), (2, .ofNat 0, .ofNat 4)], [], [(0, .inl 1), (1, .inl 23), (2, .inr (false, (1, .ofNat 0)))], [], [(1, (0, .ofNat 3), .inr (false, (2, .ofNat 0))), (1, (0, .ofNat 7), .inr (false, (0, .ofNat 6)))], [], []), ((0, 1, .ofNat 200), (0, 0, .ofNat 0), (0, 0, .ofNat 0)), 0, 0)]
set_option maxRecDepth 1000000 in
theorem cv111 {gh : sxGh} (hg : sxGd sxKw gh) : sxCtV sxKw gh ct111 := sxMeB_ok (cts := [ct2, ct110]) (cuts := cu111) (sp := []) 285 (by decide +kernel) hg (by decide) (by decide) (List.forall_mem_cons.mpr ⟨cv2 hg, (List.forall_mem_cons.mpr ⟨cv110 hg, (fun _ h => absurd h List.not_mem_nil)⟩)⟩)
/-- LotBeliefs.TongueReader.readRelation -/
def ct112 : sxCt := (107, 5, (1, [], [], [(0, .inl 1), (1, .inl 23)], [], [(1, (0, .ofNat 7), .inr (false, (0, .ofNat 6)))], [], []), [(1, 4), (1, 5), (1, 6), (1, 7), (1, 9), (1, 10), (23, 3), (24, 0)], [
  (3, [(1, .ofNat 0, .ofNat 4), (2, .ofNat 1, .ofNat 201)], [], [], [], [(1, (0, .ofNat 3), .inr (false, (1, .ofNat 0))), (1, (0, .ofNat 7), .inr (false, (0, .ofNat 6))), (23, (0, .ofNat 2), .inr (false, (2, .ofNat 0)))], [], [])], [], 0, 0)
def cu112 : List sxCu := []
set_option maxRecDepth 1000000 in
theorem cv112 {gh : sxGh} (hg : sxGd sxKw gh) : sxCtV sxKw gh ct112 := sxMeB_ok (cts := [ct2, ct111]) (cuts := cu112) (sp := []) 617 (by decide +kernel) hg (by decide) (by decide) (List.forall_mem_cons.mpr ⟨cv2 hg, (List.forall_mem_cons.mpr ⟨cv111 hg, (fun _ h => absurd h List.not_mem_nil)⟩)⟩)
/-- LotBeliefs.TongueReader.readPart -/
def ct113 : sxCt := (106, 6, (1, [], [], [(0, .inl 1), (1, .inl 23)], [], [(1, (0, .ofNat 7), .inr (false, (0, .ofNat 6)))], [], []), [(1, 4), (1, 5), (1, 6), (1, 7), (1, 9), (1, 10), (23, 3), (24, 0)], [
  (2, [(1, .ofNat 0, .ofNat 4)], [], [], [], [(1, (0, .ofNat 3), .inr (false, (1, .ofNat 0))), (1, (0, .ofNat 7), .inr (false, (0, .ofNat 6)))], [], [])], [], 0, 0)
def cu113 : List sxCu := []
set_option maxRecDepth 1000000 in
theorem cv113 {gh : sxGh} (hg : sxGd sxKw gh) : sxCtV sxKw gh ct113 := sxMeB_ok (cts := [ct97, ct112]) (cuts := cu113) (sp := []) 158 (by decide +kernel) hg (by decide) (by decide) (List.forall_mem_cons.mpr ⟨cv97 hg, (List.forall_mem_cons.mpr ⟨cv112 hg, (fun _ h => absurd h List.not_mem_nil)⟩)⟩)
/-- LotBeliefs.Tape.isWord -/
def ct114 : sxCt := (85, 0, (1, [], [], [(0, .inl 1), (1, .inl 1000026)], [], [], [], []), [], [
  (1, [], [], [], [.inr (false, (0, .ofNat 0))], [], [], []), 
  (1, [], [], [], [.inr (false, (0, .ofNat 1))], [], [], [])], [], 0, 0)
def cu114 : List sxCu := []
set_option maxRecDepth 1000000 in
theorem cv114 {gh : sxGh} (hg : sxGd sxKw gh) : sxCtV sxKw gh ct114 := sxMeB_ok (cts := []) (cuts := cu114) (sp := []) 174 (by decide +kernel) hg (by decide) (by decide) (fun _ h => absurd h List.not_mem_nil)
/-- LotBeliefs.TongueReader.readEach -/
def ct115 : sxCt := (105, 7, (1, [], [], [(0, .inl 1), (1, .inl 23)], [], [(1, (0, .ofNat 7), .inr (false, (0, .ofNat 6)))], [], []), [(1, 4), (1, 5), (1, 6), (1, 7), (1, 9), (1, 10), (23, 3), (24, 0)], [
  (2, [(1, .ofNat 0, .ofNat 4)], [], [], [], [(1, (0, .ofNat 3), .inr (false, (1, .ofNat 0))), (1, (0, .ofNat 7), .inr (false, (0, .ofNat 6)))], [], [])], [], 0, 0)
def cu115 : List sxCu := [
  (7, (3, [(1, .ofNat 0, .ofNat 200), (2, .ofNat 0, .ofNat 4)], [], [(0, .inl 1), (1, .inl 23), (2, .inr (false, (1, .ofNat 0)))], [], [(1, (0, .ofNat 3), .inr (false, (2, .ofNat 0))), (1, (0, .ofNat 7), .inr (false, (0, .ofNat 6)))], [], []), ((0, 1, .ofNat 200), (0, 0, .ofNat 0), (0, 0, .ofNat 0)), 0, 0)]
set_option maxRecDepth 1000000 in
theorem cv115 {gh : sxGh} (hg : sxGd sxKw gh) : sxCtV sxKw gh ct115 := sxMeB_ok (cts := [ct2, ct114, ct113]) (cuts := cu115) (sp := []) 111 (by decide +kernel) hg (by decide) (by decide) (List.forall_mem_cons.mpr ⟨cv2 hg, (List.forall_mem_cons.mpr ⟨cv114 hg, (List.forall_mem_cons.mpr ⟨cv113 hg, (fun _ h => absurd h List.not_mem_nil)⟩)⟩)⟩)
/-- LotBeliefs.Tape.isWord -/
def ct116 : sxCt := (85, 0, (1, [], [], [(0, .inl 1), (1, .inl 1000027)], [], [], [], []), [], [
  (1, [], [], [], [.inr (false, (0, .ofNat 0))], [], [], []), 
  (1, [], [], [], [.inr (false, (0, .ofNat 1))], [], [], [])], [], 0, 0)
def cu116 : List sxCu := []
set_option maxRecDepth 1000000 in
theorem cv116 {gh : sxGh} (hg : sxGd sxKw gh) : sxCtV sxKw gh ct116 := sxMeB_ok (cts := []) (cuts := cu116) (sp := []) 144 (by decide +kernel) hg (by decide) (by decide) (fun _ h => absurd h List.not_mem_nil)
/-- LotBeliefs.TongueReader.readEither -/
def ct117 : sxCt := (104, 8, (1, [], [], [(0, .inl 1), (1, .inl 23)], [], [(1, (0, .ofNat 7), .inr (false, (0, .ofNat 6)))], [], []), [(1, 4), (1, 5), (1, 6), (1, 7), (1, 9), (1, 10), (23, 3), (24, 0)], [
  (2, [(1, .ofNat 0, .ofNat 4)], [], [], [], [(1, (0, .ofNat 3), .inr (false, (1, .ofNat 0))), (1, (0, .ofNat 7), .inr (false, (0, .ofNat 6)))], [], [])], [], 0, 0)
def cu117 : List sxCu := [
  (7, (3, [(1, .ofNat 0, .ofNat 200), (2, .ofNat 0, .ofNat 4)], [], [(0, .inl 1), (1, .inl 23), (2, .inr (false, (1, .ofNat 0)))], [], [(1, (0, .ofNat 3), .inr (false, (2, .ofNat 0))), (1, (0, .ofNat 7), .inr (false, (0, .ofNat 6)))], [], []), ((0, 1, .ofNat 200), (0, 0, .ofNat 0), (0, 0, .ofNat 0)), 0, 0)]
set_option maxRecDepth 1000000 in
theorem cv117 {gh : sxGh} (hg : sxGd sxKw gh) : sxCtV sxKw gh ct117 := sxMeB_ok (cts := [ct2, ct116, ct115]) (cuts := cu117) (sp := []) 111 (by decide +kernel) hg (by decide) (by decide) (List.forall_mem_cons.mpr ⟨cv2 hg, (List.forall_mem_cons.mpr ⟨cv116 hg, (List.forall_mem_cons.mpr ⟨cv115 hg, (fun _ h => absurd h List.not_mem_nil)⟩)⟩)⟩)
/-- LotBeliefs.TongueReader.readValue -/
def ct118 : sxCt := (110, 5, (1, [], [], [(0, .inl 1), (1, .inl 23)], [], [(1, (0, .ofNat 7), .inr (false, (0, .ofNat 5)))], [], []), [(1, 4), (1, 5), (1, 6), (1, 7), (1, 8), (1, 9), (1, 10), (23, 3), (24, 0)], [
  (2, [(1, .ofNat 0, .ofNat 4)], [], [], [], [(1, (0, .ofNat 3), .inr (false, (1, .ofNat 0))), (1, (0, .ofNat 7), .inr (false, (0, .ofNat 5)))], [], [])], [], 0, 0)
def cu118 : List sxCu := []
set_option maxRecDepth 1000000 in
theorem cv118 {gh : sxGh} (hg : sxGd sxKw gh) : sxCtV sxKw gh ct118 := sxMeB_ok (cts := [ct2, ct111, ct108]) (cuts := cu118) (sp := []) 583 (by decide +kernel) hg (by decide) (by decide) (List.forall_mem_cons.mpr ⟨cv2 hg, (List.forall_mem_cons.mpr ⟨cv111 hg, (List.forall_mem_cons.mpr ⟨cv108 hg, (fun _ h => absurd h List.not_mem_nil)⟩)⟩)⟩)
/-- LotBeliefs.TongueReader.readProduct -/
def ct119 : sxCt := (109, 6, (1, [], [], [(0, .inl 1), (1, .inl 23)], [], [(1, (0, .ofNat 7), .inr (false, (0, .ofNat 5)))], [], []), [(1, 4), (1, 5), (1, 6), (1, 7), (1, 8), (1, 9), (1, 10), (23, 3), (24, 0)], [
  (2, [(1, .ofNat 0, .ofNat 4)], [], [], [], [(1, (0, .ofNat 3), .inr (false, (1, .ofNat 0))), (1, (0, .ofNat 7), .inr (false, (0, .ofNat 5)))], [], [])], [], 0, 0)
def cu119 : List sxCu := [
  (7, (3, [(1, .ofNat 0, .ofNat 200), (2, .ofNat 0, .ofNat 4)], [], [(0, .inl 1), (1, .inl 23), (2, .inr (false, (1, .ofNat 0)))], [], [(1, (0, .ofNat 3), .inr (false, (2, .ofNat 0))), (1, (0, .ofNat 7), .inr (false, (0, .ofNat 5)))], [], []), ((0, 1, .ofNat 200), (0, 0, .ofNat 0), (0, 0, .ofNat 0)), 0, 0)]
set_option maxRecDepth 1000000 in
theorem cv119 {gh : sxGh} (hg : sxGd sxKw gh) : sxCtV sxKw gh ct119 := sxMeB_ok (cts := [ct2, ct118]) (cuts := cu119) (sp := []) 127 (by decide +kernel) hg (by decide) (by decide) (List.forall_mem_cons.mpr ⟨cv2 hg, (List.forall_mem_cons.mpr ⟨cv118 hg, (fun _ h => absurd h List.not_mem_nil)⟩)⟩)
/-- LotBeliefs.TongueReader.readSum -/
def ct120 : sxCt := (108, 7, (1, [], [], [(0, .inl 1), (1, .inl 23)], [], [(1, (0, .ofNat 7), .inr (false, (0, .ofNat 5)))], [], []), [(1, 4), (1, 5), (1, 6), (1, 7), (1, 8), (1, 9), (1, 10), (23, 3), (24, 0)], [
  (2, [(1, .ofNat 0, .ofNat 4)], [], [], [], [(1, (0, .ofNat 3), .inr (false, (1, .ofNat 0))), (1, (0, .ofNat 7), .inr (false, (0, .ofNat 5)))], [], [])], [], 0, 0)
def cu120 : List sxCu := [
  (7, (3, [(1, .ofNat 0, .ofNat 200), (2, .ofNat 0, .ofNat 4)], [], [(0, .inl 1), (1, .inl 23), (2, .inr (false, (1, .ofNat 0)))], [], [(1, (0, .ofNat 3), .inr (false, (2, .ofNat 0))), (1, (0, .ofNat 7), .inr (false, (0, .ofNat 5)))], [], []), ((0, 1, .ofNat 200), (0, 0, .ofNat 0), (0, 0, .ofNat 0)), 0, 0)]
set_option maxRecDepth 1000000 in
theorem cv120 {gh : sxGh} (hg : sxGd sxKw gh) : sxCtV sxKw gh ct120 := sxMeB_ok (cts := [ct2, ct119]) (cuts := cu120) (sp := []) 285 (by decide +kernel) hg (by decide) (by decide) (List.forall_mem_cons.mpr ⟨cv2 hg, (List.forall_mem_cons.mpr ⟨cv119 hg, (fun _ h => absurd h List.not_mem_nil)⟩)⟩)
/-- LotBeliefs.TongueReader.readRelation -/
def ct121 : sxCt := (107, 8, (1, [], [], [(0, .inl 1), (1, .inl 23)], [], [(1, (0, .ofNat 7), .inr (false, (0, .ofNat 5)))], [], []), [(1, 4), (1, 5), (1, 6), (1, 7), (1, 8), (1, 9), (1, 10), (23, 3), (24, 0)], [
  (3, [(1, .ofNat 0, .ofNat 4), (2, .ofNat 1, .ofNat 201)], [], [], [], [(1, (0, .ofNat 3), .inr (false, (1, .ofNat 0))), (1, (0, .ofNat 7), .inr (false, (0, .ofNat 5))), (23, (0, .ofNat 2), .inr (false, (2, .ofNat 0)))], [], [])], [], 0, 0)
def cu121 : List sxCu := []
set_option maxRecDepth 1000000 in
theorem cv121 {gh : sxGh} (hg : sxGd sxKw gh) : sxCtV sxKw gh ct121 := sxMeB_ok (cts := [ct2, ct120]) (cuts := cu121) (sp := []) 617 (by decide +kernel) hg (by decide) (by decide) (List.forall_mem_cons.mpr ⟨cv2 hg, (List.forall_mem_cons.mpr ⟨cv120 hg, (fun _ h => absurd h List.not_mem_nil)⟩)⟩)
/-- LotBeliefs.TongueReader.readPart -/
def ct122 : sxCt := (106, 9, (1, [], [], [(0, .inl 1), (1, .inl 23)], [], [(1, (0, .ofNat 7), .inr (false, (0, .ofNat 5)))], [], []), [(1, 4), (1, 5), (1, 6), (1, 7), (1, 8), (1, 9), (1, 10), (23, 3), (24, 0)], [
  (2, [(1, .ofNat 0, .ofNat 4)], [], [], [], [(1, (0, .ofNat 3), .inr (false, (1, .ofNat 0))), (1, (0, .ofNat 7), .inr (false, (0, .ofNat 5)))], [], [])], [], 0, 0)
def cu122 : List sxCu := []
set_option maxRecDepth 1000000 in
theorem cv122 {gh : sxGh} (hg : sxGd sxKw gh) : sxCtV sxKw gh ct122 := sxMeB_ok (cts := [ct2, ct97, ct117, ct113, ct121]) (cuts := cu122) (sp := []) 290 (by decide +kernel) hg (by decide) (by decide) (List.forall_mem_cons.mpr ⟨cv2 hg, (List.forall_mem_cons.mpr ⟨cv97 hg, (List.forall_mem_cons.mpr ⟨cv117 hg, (List.forall_mem_cons.mpr ⟨cv113 hg, (List.forall_mem_cons.mpr ⟨cv121 hg, (fun _ h => absurd h List.not_mem_nil)⟩)⟩)⟩)⟩)⟩)
/-- LotBeliefs.TongueReader.readEach -/
def ct123 : sxCt := (105, 10, (1, [], [], [(0, .inl 1), (1, .inl 23)], [], [(1, (0, .ofNat 7), .inr (false, (0, .ofNat 5)))], [], []), [(1, 4), (1, 5), (1, 6), (1, 7), (1, 8), (1, 9), (1, 10), (23, 3), (24, 0)], [
  (2, [(1, .ofNat 0, .ofNat 4)], [], [], [], [(1, (0, .ofNat 3), .inr (false, (1, .ofNat 0))), (1, (0, .ofNat 7), .inr (false, (0, .ofNat 5)))], [], [])], [], 0, 0)
def cu123 : List sxCu := [
  (7, (3, [(1, .ofNat 0, .ofNat 200), (2, .ofNat 0, .ofNat 4)], [], [(0, .inl 1), (1, .inl 23), (2, .inr (false, (1, .ofNat 0)))], [], [(1, (0, .ofNat 3), .inr (false, (2, .ofNat 0))), (1, (0, .ofNat 7), .inr (false, (0, .ofNat 5)))], [], []), ((0, 1, .ofNat 200), (0, 0, .ofNat 0), (0, 0, .ofNat 0)), 0, 0)]
set_option maxRecDepth 1000000 in
theorem cv123 {gh : sxGh} (hg : sxGd sxKw gh) : sxCtV sxKw gh ct123 := sxMeB_ok (cts := [ct2, ct114, ct122]) (cuts := cu123) (sp := []) 111 (by decide +kernel) hg (by decide) (by decide) (List.forall_mem_cons.mpr ⟨cv2 hg, (List.forall_mem_cons.mpr ⟨cv114 hg, (List.forall_mem_cons.mpr ⟨cv122 hg, (fun _ h => absurd h List.not_mem_nil)⟩)⟩)⟩)
/-- LotBeliefs.TongueReader.readEither -/
def ct124 : sxCt := (104, 11, (1, [], [], [(0, .inl 1), (1, .inl 23)], [], [(1, (0, .ofNat 7), .inr (false, (0, .ofNat 5)))], [], []), [(1, 4), (1, 5), (1, 6), (1, 7), (1, 8), (1, 9), (1, 10), (23, 3), (24, 0)], [
  (2, [(1, .ofNat 0, .ofNat 4)], [], [], [], [(1, (0, .ofNat 3), .inr (false, (1, .ofNat 0))), (1, (0, .ofNat 7), .inr (false, (0, .ofNat 5)))], [], [])], [], 0, 0)
def cu124 : List sxCu := [
  (7, (3, [(1, .ofNat 0, .ofNat 200), (2, .ofNat 0, .ofNat 4)], [], [(0, .inl 1), (1, .inl 23), (2, .inr (false, (1, .ofNat 0)))], [], [(1, (0, .ofNat 3), .inr (false, (2, .ofNat 0))), (1, (0, .ofNat 7), .inr (false, (0, .ofNat 5)))], [], []), ((0, 1, .ofNat 200), (0, 0, .ofNat 0), (0, 0, .ofNat 0)), 0, 0)]
set_option maxRecDepth 1000000 in
theorem cv124 {gh : sxGh} (hg : sxGd sxKw gh) : sxCtV sxKw gh ct124 := sxMeB_ok (cts := [ct2, ct116, ct123]) (cuts := cu124) (sp := []) 111 (by decide +kernel) hg (by decide) (by decide) (List.forall_mem_cons.mpr ⟨cv2 hg, (List.forall_mem_cons.mpr ⟨cv116 hg, (List.forall_mem_cons.mpr ⟨cv123 hg, (fun _ h => absurd h List.not_mem_nil)⟩)⟩)⟩)
/-- LotBeliefs.TongueReader.readValue -/
def ct125 : sxCt := (110, 8, (1, [], [], [(0, .inl 1), (1, .inl 23)], [], [(1, (0, .ofNat 7), .inr (false, (0, .ofNat 4)))], [], []), [(1, 4), (1, 5), (1, 6), (1, 7), (1, 8), (1, 9), (1, 10), (23, 3), (24, 0)], [
  (2, [(1, .ofNat 0, .ofNat 4)], [], [], [], [(1, (0, .ofNat 3), .inr (false, (1, .ofNat 0))), (1, (0, .ofNat 7), .inr (false, (0, .ofNat 4)))], [], [])], [], 0, 0)
def cu125 : List sxCu := []
set_option maxRecDepth 1000000 in
theorem cv125 {gh : sxGh} (hg : sxGd sxKw gh) : sxCtV sxKw gh ct125 := sxMeB_ok (cts := [ct2, ct120, ct108]) (cuts := cu125) (sp := []) 583 (by decide +kernel) hg (by decide) (by decide) (List.forall_mem_cons.mpr ⟨cv2 hg, (List.forall_mem_cons.mpr ⟨cv120 hg, (List.forall_mem_cons.mpr ⟨cv108 hg, (fun _ h => absurd h List.not_mem_nil)⟩)⟩)⟩)
/-- LotBeliefs.TongueReader.readProduct -/
def ct126 : sxCt := (109, 9, (1, [], [], [(0, .inl 1), (1, .inl 23)], [], [(1, (0, .ofNat 7), .inr (false, (0, .ofNat 4)))], [], []), [(1, 4), (1, 5), (1, 6), (1, 7), (1, 8), (1, 9), (1, 10), (23, 3), (24, 0)], [
  (2, [(1, .ofNat 0, .ofNat 4)], [], [], [], [(1, (0, .ofNat 3), .inr (false, (1, .ofNat 0))), (1, (0, .ofNat 7), .inr (false, (0, .ofNat 4)))], [], [])], [], 0, 0)
def cu126 : List sxCu := [
  (7, (3, [(1, .ofNat 0, .ofNat 200), (2, .ofNat 0, .ofNat 4)], [], [(0, .inl 1), (1, .inl 23), (2, .inr (false, (1, .ofNat 0)))], [], [(1, (0, .ofNat 3), .inr (false, (2, .ofNat 0))), (1, (0, .ofNat 7), .inr (false, (0, .ofNat 4)))], [], []), ((0, 1, .ofNat 200), (0, 0, .ofNat 0), (0, 0, .ofNat 0)), 0, 0)]
set_option maxRecDepth 1000000 in
theorem cv126 {gh : sxGh} (hg : sxGd sxKw gh) : sxCtV sxKw gh ct126 := sxMeB_ok (cts := [ct2, ct125]) (cuts := cu126) (sp := []) 127 (by decide +kernel) hg (by decide) (by decide) (List.forall_mem_cons.mpr ⟨cv2 hg, (List.forall_mem_cons.mpr ⟨cv125 hg, (fun _ h => absurd h List.not_mem_nil)⟩)⟩)
/-- LotBeliefs.TongueReader.readSum -/
def ct127 : sxCt := (108, 10, (1, [], [], [(0, .inl 1), (1, .inl 23)], [], [(1, (0, .ofNat 7), .inr (false, (0, .ofNat 4)))], [], []), [(1, 4), (1, 5), (1, 6), (1, 7), (1, 8), (1, 9), (1, 10), (23, 3), (24, 0)], [
  (2, [(1, .ofNat 0, .ofNat 4)], [], [], [], [(1, (0, .ofNat 3), .inr (false, (1, .ofNat 0))), (1, (0, .ofNat 7), .inr (false, (0, .ofNat 4)))], [], [])], [], 0, 0)
def cu127 : List sxCu := [
  (7, (3, [(1, .ofNat 0, .ofNat 200), (2, .ofNat 0, .ofNat 4)], [], [(0, .inl 1), (1, .inl 23), (2, .inr (false, (1, .ofNat 0)))], [], [(1, (0, .ofNat 3), .inr (false, (2, .ofNat 0))), (1, (0, .ofNat 7), .inr (false, (0, .ofNat 4)))], [], []), ((0, 1, .ofNat 200), (0, 0, .ofNat 0), (0, 0, .ofNat 0)), 0, 0)]
set_option maxRecDepth 1000000 in
theorem cv127 {gh : sxGh} (hg : sxGd sxKw gh) : sxCtV sxKw gh ct127 := sxMeB_ok (cts := [ct2, ct126]) (cuts := cu127) (sp := []) 285 (by decide +kernel) hg (by decide) (by decide) (List.forall_mem_cons.mpr ⟨cv2 hg, (List.forall_mem_cons.mpr ⟨cv126 hg, (fun _ h => absurd h List.not_mem_nil)⟩)⟩)
/-- LotBeliefs.TongueReader.readRelation -/
def ct128 : sxCt := (107, 11, (1, [], [], [(0, .inl 1), (1, .inl 23)], [], [(1, (0, .ofNat 7), .inr (false, (0, .ofNat 4)))], [], []), [(1, 4), (1, 5), (1, 6), (1, 7), (1, 8), (1, 9), (1, 10), (23, 3), (24, 0)], [
  (3, [(1, .ofNat 0, .ofNat 4), (2, .ofNat 1, .ofNat 201)], [], [], [], [(1, (0, .ofNat 3), .inr (false, (1, .ofNat 0))), (1, (0, .ofNat 7), .inr (false, (0, .ofNat 4))), (23, (0, .ofNat 2), .inr (false, (2, .ofNat 0)))], [], [])], [], 0, 0)
def cu128 : List sxCu := []
set_option maxRecDepth 1000000 in
theorem cv128 {gh : sxGh} (hg : sxGd sxKw gh) : sxCtV sxKw gh ct128 := sxMeB_ok (cts := [ct2, ct127]) (cuts := cu128) (sp := []) 617 (by decide +kernel) hg (by decide) (by decide) (List.forall_mem_cons.mpr ⟨cv2 hg, (List.forall_mem_cons.mpr ⟨cv127 hg, (fun _ h => absurd h List.not_mem_nil)⟩)⟩)
/-- LotBeliefs.TongueReader.readPart -/
def ct129 : sxCt := (106, 12, (1, [], [], [(0, .inl 1), (1, .inl 23)], [], [(1, (0, .ofNat 7), .inr (false, (0, .ofNat 4)))], [], []), [(1, 4), (1, 5), (1, 6), (1, 7), (1, 8), (1, 9), (1, 10), (23, 3), (24, 0)], [
  (2, [(1, .ofNat 0, .ofNat 4)], [], [], [], [(1, (0, .ofNat 3), .inr (false, (1, .ofNat 0))), (1, (0, .ofNat 7), .inr (false, (0, .ofNat 4)))], [], [])], [], 0, 0)
def cu129 : List sxCu := []
set_option maxRecDepth 1000000 in
theorem cv129 {gh : sxGh} (hg : sxGd sxKw gh) : sxCtV sxKw gh ct129 := sxMeB_ok (cts := [ct2, ct97, ct124, ct122, ct128]) (cuts := cu129) (sp := []) 290 (by decide +kernel) hg (by decide) (by decide) (List.forall_mem_cons.mpr ⟨cv2 hg, (List.forall_mem_cons.mpr ⟨cv97 hg, (List.forall_mem_cons.mpr ⟨cv124 hg, (List.forall_mem_cons.mpr ⟨cv122 hg, (List.forall_mem_cons.mpr ⟨cv128 hg, (fun _ h => absurd h List.not_mem_nil)⟩)⟩)⟩)⟩)⟩)
/-- LotBeliefs.TongueReader.readEach -/
def ct130 : sxCt := (105, 13, (1, [], [], [(0, .inl 1), (1, .inl 23)], [], [(1, (0, .ofNat 7), .inr (false, (0, .ofNat 4)))], [], []), [(1, 4), (1, 5), (1, 6), (1, 7), (1, 8), (1, 9), (1, 10), (23, 3), (24, 0)], [
  (2, [(1, .ofNat 0, .ofNat 4)], [], [], [], [(1, (0, .ofNat 3), .inr (false, (1, .ofNat 0))), (1, (0, .ofNat 7), .inr (false, (0, .ofNat 4)))], [], [])], [], 0, 0)
def cu130 : List sxCu := [
  (7, (3, [(1, .ofNat 0, .ofNat 200), (2, .ofNat 0, .ofNat 4)], [], [(0, .inl 1), (1, .inl 23), (2, .inr (false, (1, .ofNat 0)))], [], [(1, (0, .ofNat 3), .inr (false, (2, .ofNat 0))), (1, (0, .ofNat 7), .inr (false, (0, .ofNat 4)))], [], []), ((0, 1, .ofNat 200), (0, 0, .ofNat 0), (0, 0, .ofNat 0)), 0, 0)]
set_option maxRecDepth 1000000 in
theorem cv130 {gh : sxGh} (hg : sxGd sxKw gh) : sxCtV sxKw gh ct130 := sxMeB_ok (cts := [ct2, ct114, ct129]) (cuts := cu130) (sp := []) 111 (by decide +kernel) hg (by decide) (by decide) (List.forall_mem_cons.mpr ⟨cv2 hg, (List.forall_mem_cons.mpr ⟨cv114 hg, (List.forall_mem_cons.mpr ⟨cv129 hg, (fun _ h => absurd h List.not_mem_nil)⟩)⟩)⟩)
/-- LotBeliefs.TongueReader.readEither -/
def ct131 : sxCt := (104, 14, (1, [], [], [(0, .inl 1), (1, .inl 23)], [], [(1, (0, .ofNat 7), .inr (false, (0, .ofNat 4)))], [], []), [(1, 4), (1, 5), (1, 6), (1, 7), (1, 8), (1, 9), (1, 10), (23, 3), (24, 0)], [
  (2, [(1, .ofNat 0, .ofNat 4)], [], [], [], [(1, (0, .ofNat 3), .inr (false, (1, .ofNat 0))), (1, (0, .ofNat 7), .inr (false, (0, .ofNat 4)))], [], [])], [], 0, 0)
def cu131 : List sxCu := [
  (7, (3, [(1, .ofNat 0, .ofNat 200), (2, .ofNat 0, .ofNat 4)], [], [(0, .inl 1), (1, .inl 23), (2, .inr (false, (1, .ofNat 0)))], [], [(1, (0, .ofNat 3), .inr (false, (2, .ofNat 0))), (1, (0, .ofNat 7), .inr (false, (0, .ofNat 4)))], [], []), ((0, 1, .ofNat 200), (0, 0, .ofNat 0), (0, 0, .ofNat 0)), 0, 0)]
set_option maxRecDepth 1000000 in
theorem cv131 {gh : sxGh} (hg : sxGd sxKw gh) : sxCtV sxKw gh ct131 := sxMeB_ok (cts := [ct2, ct116, ct130]) (cuts := cu131) (sp := []) 111 (by decide +kernel) hg (by decide) (by decide) (List.forall_mem_cons.mpr ⟨cv2 hg, (List.forall_mem_cons.mpr ⟨cv116 hg, (List.forall_mem_cons.mpr ⟨cv130 hg, (fun _ h => absurd h List.not_mem_nil)⟩)⟩)⟩)
/-- LotBeliefs.TongueReader.readValue -/
def ct132 : sxCt := (110, 11, (1, [], [], [(0, .inl 1), (1, .inl 23)], [], [(1, (0, .ofNat 7), .inr (false, (0, .ofNat 3)))], [], []), [(1, 4), (1, 5), (1, 6), (1, 7), (1, 8), (1, 9), (1, 10), (23, 3), (24, 0)], [
  (2, [(1, .ofNat 0, .ofNat 4)], [], [], [], [(1, (0, .ofNat 3), .inr (false, (1, .ofNat 0))), (1, (0, .ofNat 7), .inr (false, (0, .ofNat 3)))], [], [])], [], 0, 0)
def cu132 : List sxCu := []
set_option maxRecDepth 1000000 in
theorem cv132 {gh : sxGh} (hg : sxGd sxKw gh) : sxCtV sxKw gh ct132 := sxMeB_ok (cts := [ct2, ct127, ct108]) (cuts := cu132) (sp := []) 583 (by decide +kernel) hg (by decide) (by decide) (List.forall_mem_cons.mpr ⟨cv2 hg, (List.forall_mem_cons.mpr ⟨cv127 hg, (List.forall_mem_cons.mpr ⟨cv108 hg, (fun _ h => absurd h List.not_mem_nil)⟩)⟩)⟩)
/-- LotBeliefs.TongueReader.readProduct -/
def ct133 : sxCt := (109, 12, (1, [], [], [(0, .inl 1), (1, .inl 23)], [], [(1, (0, .ofNat 7), .inr (false, (0, .ofNat 3)))], [], []), [(1, 4), (1, 5), (1, 6), (1, 7), (1, 8), (1, 9), (1, 10), (23, 3), (24, 0)], [
  (2, [(1, .ofNat 0, .ofNat 4)], [], [], [], [(1, (0, .ofNat 3), .inr (false, (1, .ofNat 0))), (1, (0, .ofNat 7), .inr (false, (0, .ofNat 3)))], [], [])], [], 0, 0)
def cu133 : List sxCu := [
  (7, (3, [(1, .ofNat 0, .ofNat 200), (2, .ofNat 0, .ofNat 4)], [], [(0, .inl 1), (1, .inl 23), (2, .inr (false, (1, .ofNat 0)))], [], [(1, (0, .ofNat 3), .inr (false, (2, .ofNat 0))), (1, (0, .ofNat 7), .inr (false, (0, .ofNat 3)))], [], []), ((0, 1, .ofNat 200), (0, 0, .ofNat 0), (0, 0, .ofNat 0)), 0, 0)]
set_option maxRecDepth 1000000 in
theorem cv133 {gh : sxGh} (hg : sxGd sxKw gh) : sxCtV sxKw gh ct133 := sxMeB_ok (cts := [ct2, ct132]) (cuts := cu133) (sp := []) 127 (by decide +kernel) hg (by decide) (by decide) (List.forall_mem_cons.mpr ⟨cv2 hg, (List.forall_mem_cons.mpr ⟨cv132 hg, (fun _ h => absurd h List.not_mem_nil)⟩)⟩)
/-- LotBeliefs.TongueReader.readSum -/
def ct134 : sxCt := (108, 13, (1, [], [], [(0, .inl 1), (1, .inl 23)], [], [(1, (0, .ofNat 7), .inr (false, (0, .ofNat 3)))], [], []), [(1, 4), (1, 5), (1, 6), (1, 7), (1, 8), (1, 9), (1, 10), (23, 3), (24, 0)], [
  (2, [(1, .ofNat 0, .ofNat 4)], [], [], [], [(1, (0, .ofNat 3), .inr (false, (1, .ofNat 0))), (1, (0, .ofNat 7), .inr (false, (0, .ofNat 3)))], [], [])], [], 0, 0)
def cu134 : List sxCu := [
  (7, (3, [(1, .ofNat 0, .ofNat 200), (2, .ofNat 0, .ofNat 4)], [], [(0, .inl 1), (1, .inl 23), (2, .inr (false, (1, .ofNat 0)))], [], [(1, (0, .ofNat 3), .inr (false, (2, .ofNat 0))), (1, (0, .ofNat 7), .inr (false, (0, .ofNat 3)))], [], []), ((0, 1, .ofNat 200), (0, 0, .ofNat 0), (0, 0, .ofNat 0)), 0, 0)]
set_option maxRecDepth 1000000 in
theorem cv134 {gh : sxGh} (hg : sxGd sxKw gh) : sxCtV sxKw gh ct134 := sxMeB_ok (cts := [ct2, ct133]) (cuts := cu134) (sp := []) 285 (by decide +kernel) hg (by decide) (by decide) (List.forall_mem_cons.mpr ⟨cv2 hg, (List.forall_mem_cons.mpr ⟨cv133 hg, (fun _ h => absurd h List.not_mem_nil)⟩)⟩)
/-- LotBeliefs.TongueReader.readRelation -/
def ct135 : sxCt := (107, 14, (1, [], [], [(0, .inl 1), (1, .inl 23)], [], [(1, (0, .ofNat 7), .inr (false, (0, .ofNat 3)))], [], []), [(1, 4), (1, 5), (1, 6), (1, 7), (1, 8), (1, 9), (1, 10), (23, 3), (24, 0)], [
  (3, [(1, .ofNat 0, .ofNat 4), (2, .ofNat 1, .ofNat 201)], [], [], [], [(1, (0, .ofNat 3), .inr (false, (1, .ofNat 0))), (1, (0, .ofNat 7), .inr (false, (0, .ofNat 3))), (23, (0, .ofNat 2), .inr (false, (2, .ofNat 0)))], [], [])], [], 0, 0)
def cu135 : List sxCu := []
set_option maxRecDepth 1000000 in
theorem cv135 {gh : sxGh} (hg : sxGd sxKw gh) : sxCtV sxKw gh ct135 := sxMeB_ok (cts := [ct2, ct134]) (cuts := cu135) (sp := []) 617 (by decide +kernel) hg (by decide) (by decide) (List.forall_mem_cons.mpr ⟨cv2 hg, (List.forall_mem_cons.mpr ⟨cv134 hg, (fun _ h => absurd h List.not_mem_nil)⟩)⟩)
/-- LotBeliefs.TongueReader.readPart -/
def ct136 : sxCt := (106, 15, (1, [], [], [(0, .inl 1), (1, .inl 23)], [], [(1, (0, .ofNat 7), .inr (false, (0, .ofNat 3)))], [], []), [(1, 4), (1, 5), (1, 6), (1, 7), (1, 8), (1, 9), (1, 10), (23, 3), (24, 0)], [
  (2, [(1, .ofNat 0, .ofNat 4)], [], [], [], [(1, (0, .ofNat 3), .inr (false, (1, .ofNat 0))), (1, (0, .ofNat 7), .inr (false, (0, .ofNat 3)))], [], [])], [], 0, 0)
def cu136 : List sxCu := []
set_option maxRecDepth 1000000 in
theorem cv136 {gh : sxGh} (hg : sxGd sxKw gh) : sxCtV sxKw gh ct136 := sxMeB_ok (cts := [ct2, ct97, ct131, ct129, ct135]) (cuts := cu136) (sp := []) 290 (by decide +kernel) hg (by decide) (by decide) (List.forall_mem_cons.mpr ⟨cv2 hg, (List.forall_mem_cons.mpr ⟨cv97 hg, (List.forall_mem_cons.mpr ⟨cv131 hg, (List.forall_mem_cons.mpr ⟨cv129 hg, (List.forall_mem_cons.mpr ⟨cv135 hg, (fun _ h => absurd h List.not_mem_nil)⟩)⟩)⟩)⟩)⟩)
/-- LotBeliefs.TongueReader.readEach -/
def ct137 : sxCt := (105, 16, (1, [], [], [(0, .inl 1), (1, .inl 23)], [], [(1, (0, .ofNat 7), .inr (false, (0, .ofNat 3)))], [], []), [(1, 4), (1, 5), (1, 6), (1, 7), (1, 8), (1, 9), (1, 10), (23, 3), (24, 0)], [
  (2, [(1, .ofNat 0, .ofNat 4)], [], [], [], [(1, (0, .ofNat 3), .inr (false, (1, .ofNat 0))), (1, (0, .ofNat 7), .inr (false, (0, .ofNat 3)))], [], [])], [], 0, 0)
def cu137 : List sxCu := [
  (7, (3, [(1, .ofNat 0, .ofNat 200), (2, .ofNat 0, .ofNat 4)], [], [(0, .inl 1), (1, .inl 23), (2, .inr (false, (1, .ofNat 0)))], [], [(1, (0, .ofNat 3), .inr (false, (2, .ofNat 0))), (1, (0, .ofNat 7), .inr (false, (0, .ofNat 3)))], [], []), ((0, 1, .ofNat 200), (0, 0, .ofNat 0), (0, 0, .ofNat 0)), 0, 0)]
set_option maxRecDepth 1000000 in
theorem cv137 {gh : sxGh} (hg : sxGd sxKw gh) : sxCtV sxKw gh ct137 := sxMeB_ok (cts := [ct2, ct114, ct136]) (cuts := cu137) (sp := []) 111 (by decide +kernel) hg (by decide) (by decide) (List.forall_mem_cons.mpr ⟨cv2 hg, (List.forall_mem_cons.mpr ⟨cv114 hg, (List.forall_mem_cons.mpr ⟨cv136 hg, (fun _ h => absurd h List.not_mem_nil)⟩)⟩)⟩)
/-- LotBeliefs.TongueReader.readEither -/
def ct138 : sxCt := (104, 17, (1, [], [], [(0, .inl 1), (1, .inl 23)], [], [(1, (0, .ofNat 7), .inr (false, (0, .ofNat 3)))], [], []), [(1, 4), (1, 5), (1, 6), (1, 7), (1, 8), (1, 9), (1, 10), (23, 3), (24, 0)], [
  (2, [(1, .ofNat 0, .ofNat 4)], [], [], [], [(1, (0, .ofNat 3), .inr (false, (1, .ofNat 0))), (1, (0, .ofNat 7), .inr (false, (0, .ofNat 3)))], [], [])], [], 0, 0)
def cu138 : List sxCu := [
  (7, (3, [(1, .ofNat 0, .ofNat 200), (2, .ofNat 0, .ofNat 4)], [], [(0, .inl 1), (1, .inl 23), (2, .inr (false, (1, .ofNat 0)))], [], [(1, (0, .ofNat 3), .inr (false, (2, .ofNat 0))), (1, (0, .ofNat 7), .inr (false, (0, .ofNat 3)))], [], []), ((0, 1, .ofNat 200), (0, 0, .ofNat 0), (0, 0, .ofNat 0)), 0, 0)]
set_option maxRecDepth 1000000 in
theorem cv138 {gh : sxGh} (hg : sxGd sxKw gh) : sxCtV sxKw gh ct138 := sxMeB_ok (cts := [ct2, ct116, ct137]) (cuts := cu138) (sp := []) 111 (by decide +kernel) hg (by decide) (by decide) (List.forall_mem_cons.mpr ⟨cv2 hg, (List.forall_mem_cons.mpr ⟨cv116 hg, (List.forall_mem_cons.mpr ⟨cv137 hg, (fun _ h => absurd h List.not_mem_nil)⟩)⟩)⟩)
/-- LotBeliefs.TongueReader.readValue -/
def ct139 : sxCt := (110, 14, (1, [], [], [(0, .inl 1), (1, .inl 23)], [], [(1, (0, .ofNat 7), .inr (false, (0, .ofNat 2)))], [], []), [(1, 4), (1, 5), (1, 6), (1, 7), (1, 8), (1, 9), (1, 10), (23, 3), (24, 0)], [
  (2, [(1, .ofNat 0, .ofNat 4)], [], [], [], [(1, (0, .ofNat 3), .inr (false, (1, .ofNat 0))), (1, (0, .ofNat 7), .inr (false, (0, .ofNat 2)))], [], [])], [], 0, 0)
def cu139 : List sxCu := []
set_option maxRecDepth 1000000 in
theorem cv139 {gh : sxGh} (hg : sxGd sxKw gh) : sxCtV sxKw gh ct139 := sxMeB_ok (cts := [ct2, ct134, ct108]) (cuts := cu139) (sp := []) 583 (by decide +kernel) hg (by decide) (by decide) (List.forall_mem_cons.mpr ⟨cv2 hg, (List.forall_mem_cons.mpr ⟨cv134 hg, (List.forall_mem_cons.mpr ⟨cv108 hg, (fun _ h => absurd h List.not_mem_nil)⟩)⟩)⟩)
/-- LotBeliefs.TongueReader.readProduct -/
def ct140 : sxCt := (109, 15, (1, [], [], [(0, .inl 1), (1, .inl 23)], [], [(1, (0, .ofNat 7), .inr (false, (0, .ofNat 2)))], [], []), [(1, 4), (1, 5), (1, 6), (1, 7), (1, 8), (1, 9), (1, 10), (23, 3), (24, 0)], [
  (2, [(1, .ofNat 0, .ofNat 4)], [], [], [], [(1, (0, .ofNat 3), .inr (false, (1, .ofNat 0))), (1, (0, .ofNat 7), .inr (false, (0, .ofNat 2)))], [], [])], [], 0, 0)
def cu140 : List sxCu := [
  (7, (3, [(1, .ofNat 0, .ofNat 200), (2, .ofNat 0, .ofNat 4)], [], [(0, .inl 1), (1, .inl 23), (2, .inr (false, (1, .ofNat 0)))], [], [(1, (0, .ofNat 3), .inr (false, (2, .ofNat 0))), (1, (0, .ofNat 7), .inr (false, (0, .ofNat 2)))], [], []), ((0, 1, .ofNat 200), (0, 0, .ofNat 0), (0, 0, .ofNat 0)), 0, 0)]
set_option maxRecDepth 1000000 in
theorem cv140 {gh : sxGh} (hg : sxGd sxKw gh) : sxCtV sxKw gh ct140 := sxMeB_ok (cts := [ct2, ct139]) (cuts := cu140) (sp := []) 127 (by decide +kernel) hg (by decide) (by decide) (List.forall_mem_cons.mpr ⟨cv2 hg, (List.forall_mem_cons.mpr ⟨cv139 hg, (fun _ h => absurd h List.not_mem_nil)⟩)⟩)
/-- LotBeliefs.TongueReader.readSum -/
def ct141 : sxCt := (108, 16, (1, [], [], [(0, .inl 1), (1, .inl 23)], [], [(1, (0, .ofNat 7), .inr (false, (0, .ofNat 2)))], [], []), [(1, 4), (1, 5), (1, 6), (1, 7), (1, 8), (1, 9), (1, 10), (23, 3), (24, 0)], [
  (2, [(1, .ofNat 0, .ofNat 4)], [], [], [], [(1, (0, .ofNat 3), .inr (false, (1, .ofNat 0))), (1, (0, .ofNat 7), .inr (false, (0, .ofNat 2)))], [], [])], [], 0, 0)
def cu141 : List sxCu := [
  (7, (3, [(1, .ofNat 0, .ofNat 200), (2, .ofNat 0, .ofNat 4)], [], [(0, .inl 1), (1, .inl 23), (2, .inr (false, (1, .ofNat 0)))], [], [(1, (0, .ofNat 3), .inr (false, (2, .ofNat 0))), (1, (0, .ofNat 7), .inr (false, (0, .ofNat 2)))], [], []), ((0, 1, .ofNat 200), (0, 0, .ofNat 0), (0, 0, .ofNat 0)), 0, 0)]
set_option maxRecDepth 1000000 in
theorem cv141 {gh : sxGh} (hg : sxGd sxKw gh) : sxCtV sxKw gh ct141 := sxMeB_ok (cts := [ct2, ct140]) (cuts := cu141) (sp := []) 285 (by decide +kernel) hg (by decide) (by decide) (List.forall_mem_cons.mpr ⟨cv2 hg, (List.forall_mem_cons.mpr ⟨cv140 hg, (fun _ h => absurd h List.not_mem_nil)⟩)⟩)
/-- LotBeliefs.TongueReader.readRelation -/
def ct142 : sxCt := (107, 17, (1, [], [], [(0, .inl 1), (1, .inl 23)], [], [(1, (0, .ofNat 7), .inr (false, (0, .ofNat 2)))], [], []), [(1, 4), (1, 5), (1, 6), (1, 7), (1, 8), (1, 9), (1, 10), (23, 3), (24, 0)], [
  (3, [(1, .ofNat 0, .ofNat 4), (2, .ofNat 1, .ofNat 201)], [], [], [], [(1, (0, .ofNat 3), .inr (false, (1, .ofNat 0))), (1, (0, .ofNat 7), .inr (false, (0, .ofNat 2))), (23, (0, .ofNat 2), .inr (false, (2, .ofNat 0)))], [], [])], [], 0, 0)
def cu142 : List sxCu := []
set_option maxRecDepth 1000000 in
theorem cv142 {gh : sxGh} (hg : sxGd sxKw gh) : sxCtV sxKw gh ct142 := sxMeB_ok (cts := [ct2, ct141]) (cuts := cu142) (sp := []) 617 (by decide +kernel) hg (by decide) (by decide) (List.forall_mem_cons.mpr ⟨cv2 hg, (List.forall_mem_cons.mpr ⟨cv141 hg, (fun _ h => absurd h List.not_mem_nil)⟩)⟩)
/-- LotBeliefs.TongueReader.readPart -/
def ct143 : sxCt := (106, 18, (1, [], [], [(0, .inl 1), (1, .inl 23)], [], [(1, (0, .ofNat 7), .inr (false, (0, .ofNat 2)))], [], []), [(1, 4), (1, 5), (1, 6), (1, 7), (1, 8), (1, 9), (1, 10), (23, 3), (24, 0)], [
  (2, [(1, .ofNat 0, .ofNat 4)], [], [], [], [(1, (0, .ofNat 3), .inr (false, (1, .ofNat 0))), (1, (0, .ofNat 7), .inr (false, (0, .ofNat 2)))], [], [])], [], 0, 0)
def cu143 : List sxCu := []
set_option maxRecDepth 1000000 in
theorem cv143 {gh : sxGh} (hg : sxGd sxKw gh) : sxCtV sxKw gh ct143 := sxMeB_ok (cts := [ct2, ct97, ct138, ct136, ct142]) (cuts := cu143) (sp := []) 290 (by decide +kernel) hg (by decide) (by decide) (List.forall_mem_cons.mpr ⟨cv2 hg, (List.forall_mem_cons.mpr ⟨cv97 hg, (List.forall_mem_cons.mpr ⟨cv138 hg, (List.forall_mem_cons.mpr ⟨cv136 hg, (List.forall_mem_cons.mpr ⟨cv142 hg, (fun _ h => absurd h List.not_mem_nil)⟩)⟩)⟩)⟩)⟩)
/-- LotBeliefs.TongueReader.readEach -/
def ct144 : sxCt := (105, 19, (1, [], [], [(0, .inl 1), (1, .inl 23)], [], [(1, (0, .ofNat 7), .inr (false, (0, .ofNat 2)))], [], []), [(1, 4), (1, 5), (1, 6), (1, 7), (1, 8), (1, 9), (1, 10), (23, 3), (24, 0)], [
  (2, [(1, .ofNat 0, .ofNat 4)], [], [], [], [(1, (0, .ofNat 3), .inr (false, (1, .ofNat 0))), (1, (0, .ofNat 7), .inr (false, (0, .ofNat 2)))], [], [])], [], 0, 0)
def cu144 : List sxCu := [
  (7, (3, [(1, .ofNat 0, .ofNat 200), (2, .ofNat 0, .ofNat 4)], [], [(0, .inl 1), (1, .inl 23), (2, .inr (false, (1, .ofNat 0)))], [], [(1, (0, .ofNat 3), .inr (false, (2, .ofNat 0))), (1, (0, .ofNat 7), .inr (false, (0, .ofNat 2)))], [], []), ((0, 1, .ofNat 200), (0, 0, .ofNat 0), (0, 0, .ofNat 0)), 0, 0)]
set_option maxRecDepth 1000000 in
theorem cv144 {gh : sxGh} (hg : sxGd sxKw gh) : sxCtV sxKw gh ct144 := sxMeB_ok (cts := [ct2, ct114, ct143]) (cuts := cu144) (sp := []) 111 (by decide +kernel) hg (by decide) (by decide) (List.forall_mem_cons.mpr ⟨cv2 hg, (List.forall_mem_cons.mpr ⟨cv114 hg, (List.forall_mem_cons.mpr ⟨cv143 hg, (fun _ h => absurd h List.not_mem_nil)⟩)⟩)⟩)
/-- LotBeliefs.TongueReader.readEither -/
def ct145 : sxCt := (104, 20, (1, [], [], [(0, .inl 1), (1, .inl 23)], [], [(1, (0, .ofNat 7), .inr (false, (0, .ofNat 2)))], [], []), [(1, 4), (1, 5), (1, 6), (1, 7), (1, 8), (1, 9), (1, 10), (23, 3), (24, 0)], [
  (2, [(1, .ofNat 0, .ofNat 4)], [], [], [], [(1, (0, .ofNat 3), .inr (false, (1, .ofNat 0))), (1, (0, .ofNat 7), .inr (false, (0, .ofNat 2)))], [], [])], [], 0, 0)
def cu145 : List sxCu := [
  (7, (3, [(1, .ofNat 0, .ofNat 200), (2, .ofNat 0, .ofNat 4)], [], [(0, .inl 1), (1, .inl 23), (2, .inr (false, (1, .ofNat 0)))], [], [(1, (0, .ofNat 3), .inr (false, (2, .ofNat 0))), (1, (0, .ofNat 7), .inr (false, (0, .ofNat 2)))], [], []), ((0, 1, .ofNat 200), (0, 0, .ofNat 0), (0, 0, .ofNat 0)), 0, 0)]
set_option maxRecDepth 1000000 in
theorem cv145 {gh : sxGh} (hg : sxGd sxKw gh) : sxCtV sxKw gh ct145 := sxMeB_ok (cts := [ct2, ct116, ct144]) (cuts := cu145) (sp := []) 111 (by decide +kernel) hg (by decide) (by decide) (List.forall_mem_cons.mpr ⟨cv2 hg, (List.forall_mem_cons.mpr ⟨cv116 hg, (List.forall_mem_cons.mpr ⟨cv144 hg, (fun _ h => absurd h List.not_mem_nil)⟩)⟩)⟩)
/-- LotBeliefs.TongueReader.readValue -/
def ct146 : sxCt := (110, 17, (1, [], [], [(0, .inl 1), (1, .inl 23)], [], [(1, (0, .ofNat 7), .inr (false, (0, .ofNat 1)))], [], []), [(1, 4), (1, 5), (1, 6), (1, 7), (1, 8), (1, 9), (1, 10), (23, 3), (24, 0)], [
  (2, [(1, .ofNat 0, .ofNat 4)], [], [], [], [(1, (0, .ofNat 3), .inr (false, (1, .ofNat 0))), (1, (0, .ofNat 7), .inr (false, (0, .ofNat 1)))], [], [])], [], 0, 0)
def cu146 : List sxCu := []
set_option maxRecDepth 1000000 in
theorem cv146 {gh : sxGh} (hg : sxGd sxKw gh) : sxCtV sxKw gh ct146 := sxMeB_ok (cts := [ct2, ct141, ct108]) (cuts := cu146) (sp := []) 583 (by decide +kernel) hg (by decide) (by decide) (List.forall_mem_cons.mpr ⟨cv2 hg, (List.forall_mem_cons.mpr ⟨cv141 hg, (List.forall_mem_cons.mpr ⟨cv108 hg, (fun _ h => absurd h List.not_mem_nil)⟩)⟩)⟩)
/-- LotBeliefs.TongueReader.readProduct -/
def ct147 : sxCt := (109, 18, (1, [], [], [(0, .inl 1), (1, .inl 23)], [], [(1, (0, .ofNat 7), .inr (false, (0, .ofNat 1)))], [], []), [(1, 4), (1, 5), (1, 6), (1, 7), (1, 8), (1, 9), (1, 10), (23, 3), (24, 0)], [
  (2, [(1, .ofNat 0, .ofNat 4)], [], [], [], [(1, (0, .ofNat 3), .inr (false, (1, .ofNat 0))), (1, (0, .ofNat 7), .inr (false, (0, .ofNat 1)))], [], [])], [], 0, 0)
def cu147 : List sxCu := [
  (7, (3, [(1, .ofNat 0, .ofNat 200), (2, .ofNat 0, .ofNat 4)], [], [(0, .inl 1), (1, .inl 23), (2, .inr (false, (1, .ofNat 0)))], [], [(1, (0, .ofNat 3), .inr (false, (2, .ofNat 0))), (1, (0, .ofNat 7), .inr (false, (0, .ofNat 1)))], [], []), ((0, 1, .ofNat 200), (0, 0, .ofNat 0), (0, 0, .ofNat 0)), 0, 0)]
set_option maxRecDepth 1000000 in
theorem cv147 {gh : sxGh} (hg : sxGd sxKw gh) : sxCtV sxKw gh ct147 := sxMeB_ok (cts := [ct2, ct146]) (cuts := cu147) (sp := []) 127 (by decide +kernel) hg (by decide) (by decide) (List.forall_mem_cons.mpr ⟨cv2 hg, (List.forall_mem_cons.mpr ⟨cv146 hg, (fun _ h => absurd h List.not_mem_nil)⟩)⟩)
end SXC
