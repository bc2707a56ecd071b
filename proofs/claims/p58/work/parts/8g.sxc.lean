/-! SX: contracts, by program -/
section SXC
/-- Integer.bitCount -/
def ct966 : sxCt := (327, 0, (2, [(1, .ofNat 0, .ofNat 39)], [], [(0, .inr (false, (1, .ofNat 0)))], [], [], [], []), [], [
  (3, [(2, .ofNat 0, .ofNat 63)], [], [], [.inr (false, (2, .ofNat 0))], [], [], [])], [], 0, 0)
def cu966 : List sxCu := []
set_option maxRecDepth 1000000 in
theorem cv966 {gh : sxGh} (hg : sxGd sxKw gh) : sxCtV sxKw gh ct966 := sxMeB_ok (cts := []) (cuts := cu966) (sp := []) 102 (by decide +kernel) hg (by decide) (by decide) (fun _ h => absurd h List.not_mem_nil)
/-- Integer.bitCount -/
def ct970 : sxCt := (327, 0, (2, [(1, .ofNat 0, .ofNat 63)], [], [(0, .inr (false, (1, .ofNat 0)))], [], [], [], []), [], [
  (3, [(2, .ofNat 0, .ofNat 63)], [], [], [.inr (false, (2, .ofNat 0))], [], [], [])], [], 0, 0)
def cu970 : List sxCu := []
set_option maxRecDepth 1000000 in
theorem cv970 {gh : sxGh} (hg : sxGd sxKw gh) : sxCtV sxKw gh ct970 := sxMeB_ok (cts := []) (cuts := cu970) (sp := []) 102 (by decide +kernel) hg (by decide) (by decide) (fun _ h => absurd h List.not_mem_nil)
/-- Integer.bitCount -/
def ct971 : sxCt := (327, 0, (2, [(1, .ofNat 0, .ofNat 64)], [], [(0, .inr (false, (1, .ofNat 0)))], [], [], [], []), [], [
  (3, [(2, .ofNat 0, .ofNat 63)], [], [], [.inr (false, (2, .ofNat 0))], [], [], [])], [], 0, 0)
def cu971 : List sxCu := []
set_option maxRecDepth 1000000 in
theorem cv971 {gh : sxGh} (hg : sxGd sxKw gh) : sxCtV sxKw gh ct971 := sxMeB_ok (cts := []) (cuts := cu971) (sp := []) 102 (by decide +kernel) hg (by decide) (by decide) (fun _ h => absurd h List.not_mem_nil)
/-- LotBeliefs.Survey.heldInAll -/
def ct972 : sxCt := (77, 1, (2, [(1, .ofNat 1, .ofNat 64)], [], [(0, .inl 74), (1, .inr (false, (1, .ofNat 0)))], [], [], [], []), [], [
  (3, [(2, .negSucc 2147483647, .ofNat 2147483647)], [], [], [.inr (false, (2, .ofNat 0))], [], [], [])], [], 0, 0)
def cu972 : List sxCu := [
  (4, (4, [(1, .ofNat 1, .ofNat 64), (2, .negSucc 2147483647, .ofNat 2147483647), (3, .ofNat 0, .ofNat 128)], [], [(0, .inl 74), (1, .inr (false, (1, .ofNat 0))), (2, .inr (false, (2, .ofNat 0))), (3, .inr (false, (3, .ofNat 0)))], [], [], [], []), ((0, 3, .ofNat 128), (0, 0, .ofNat 0), (0, 0, .ofNat 0)), 0, 0)]
set_option maxRecDepth 1000000 in
theorem cv972 {gh : sxGh} (hg : sxGd sxKw gh) : sxCtV sxKw gh ct972 := sxMeB_ok (cts := [ct971]) (cuts := cu972) (sp := []) 86 (by decide +kernel) hg (by decide) (by decide) (List.forall_mem_cons.mpr ⟨cv971 hg, (fun _ h => absurd h List.not_mem_nil)⟩)
/-- LotBeliefs.Survey.heldInAll -/
def ct973 : sxCt := (77, 1, (2, [(1, .ofNat 1, .ofNat 64)], [], [(0, .inl 70), (1, .inr (false, (1, .ofNat 0)))], [], [], [], []), [], [
  (3, [(2, .negSucc 2147483647, .ofNat 2147483647)], [], [], [.inr (false, (2, .ofNat 0))], [], [], [])], [], 0, 0)
def cu973 : List sxCu := [
  (4, (4, [(1, .ofNat 1, .ofNat 64), (2, .negSucc 2147483647, .ofNat 2147483647), (3, .ofNat 0, .ofNat 128)], [], [(0, .inl 70), (1, .inr (false, (1, .ofNat 0))), (2, .inr (false, (2, .ofNat 0))), (3, .inr (false, (3, .ofNat 0)))], [], [], [], []), ((0, 3, .ofNat 128), (0, 0, .ofNat 0), (0, 0, .ofNat 0)), 0, 0)]
set_option maxRecDepth 1000000 in
theorem cv973 {gh : sxGh} (hg : sxGd sxKw gh) : sxCtV sxKw gh ct973 := sxMeB_ok (cts := [ct971]) (cuts := cu973) (sp := []) 86 (by decide +kernel) hg (by decide) (by decide) (List.forall_mem_cons.mpr ⟨cv971 hg, (fun _ h => absurd h List.not_mem_nil)⟩)
/-- LotBeliefs.Survey.heldInAll -/
def ct974 : sxCt := (77, 1, (2, [(1, .ofNat 1, .ofNat 64)], [], [(0, .inl 66), (1, .inr (false, (1, .ofNat 0)))], [], [], [], []), [], [
  (3, [(2, .negSucc 2147483647, .ofNat 2147483647)], [], [], [.inr (false, (2, .ofNat 0))], [], [], [])], [], 0, 0)
def cu974 : List sxCu := [
  (4, (4, [(1, .ofNat 1, .ofNat 64), (2, .negSucc 2147483647, .ofNat 2147483647), (3, .ofNat 0, .ofNat 128)], [], [(0, .inl 66), (1, .inr (false, (1, .ofNat 0))), (2, .inr (false, (2, .ofNat 0))), (3, .inr (false, (3, .ofNat 0)))], [], [], [], []), ((0, 3, .ofNat 128), (0, 0, .ofNat 0), (0, 0, .ofNat 0)), 0, 0)]
set_option maxRecDepth 1000000 in
theorem cv974 {gh : sxGh} (hg : sxGd sxKw gh) : sxCtV sxKw gh ct974 := sxMeB_ok (cts := [ct971]) (cuts := cu974) (sp := []) 86 (by decide +kernel) hg (by decide) (by decide) (List.forall_mem_cons.mpr ⟨cv971 hg, (fun _ h => absurd h List.not_mem_nil)⟩)
/-- LotBeliefs.Survey.heldInAll -/
def ct975 : sxCt := (77, 1, (2, [(1, .ofNat 1, .ofNat 64)], [], [(0, .inl 62), (1, .inr (false, (1, .ofNat 0)))], [], [], [], []), [], [
  (3, [(2, .negSucc 2147483647, .ofNat 2147483647)], [], [], [.inr (false, (2, .ofNat 0))], [], [], [])], [], 0, 0)
def cu975 : List sxCu := [
  (4, (4, [(1, .ofNat 1, .ofNat 64), (2, .negSucc 2147483647, .ofNat 2147483647), (3, .ofNat 0, .ofNat 128)], [], [(0, .inl 62), (1, .inr (false, (1, .ofNat 0))), (2, .inr (false, (2, .ofNat 0))), (3, .inr (false, (3, .ofNat 0)))], [], [], [], []), ((0, 3, .ofNat 128), (0, 0, .ofNat 0), (0, 0, .ofNat 0)), 0, 0)]
set_option maxRecDepth 1000000 in
theorem cv975 {gh : sxGh} (hg : sxGd sxKw gh) : sxCtV sxKw gh ct975 := sxMeB_ok (cts := [ct971]) (cuts := cu975) (sp := []) 86 (by decide +kernel) hg (by decide) (by decide) (List.forall_mem_cons.mpr ⟨cv971 hg, (fun _ h => absurd h List.not_mem_nil)⟩)
/-- LotBeliefs.Survey.heldInAll -/
def ct976 : sxCt := (77, 1, (2, [(1, .ofNat 1, .ofNat 64)], [], [(0, .inl 58), (1, .inr (false, (1, .ofNat 0)))], [], [], [], []), [], [
  (3, [(2, .negSucc 2147483647, .ofNat 2147483647)], [], [], [.inr (false, (2, .ofNat 0))], [], [], [])], [], 0, 0)
def cu976 : List sxCu := [
  (4, (4, [(1, .ofNat 1, .ofNat 64), (2, .negSucc 2147483647, .ofNat 2147483647), (3, .ofNat 0, .ofNat 128)], [], [(0, .inl 58), (1, .inr (false, (1, .ofNat 0))), (2, .inr (false, (2, .ofNat 0))), (3, .inr (false, (3, .ofNat 0)))], [], [], [], []), ((0, 3, .ofNat 128), (0, 0, .ofNat 0), (0, 0, .ofNat 0)), 0, 0)]
set_option maxRecDepth 1000000 in
theorem cv976 {gh : sxGh} (hg : sxGd sxKw gh) : sxCtV sxKw gh ct976 := sxMeB_ok (cts := [ct971]) (cuts := cu976) (sp := []) 86 (by decide +kernel) hg (by decide) (by decide) (List.forall_mem_cons.mpr ⟨cv971 hg, (fun _ h => absurd h List.not_mem_nil)⟩)
/-- Integer.bitCount -/
def ct977 : sxCt := (327, 0, (2, [(1, .ofNat 0, .ofNat 127)], [], [(0, .inr (false, (1, .ofNat 0)))], [], [], [], []), [], [
  (3, [(2, .ofNat 0, .ofNat 63)], [], [], [.inr (false, (2, .ofNat 0))], [], [], [])], [], 0, 0)
def cu977 : List sxCu := []
set_option maxRecDepth 1000000 in
theorem cv977 {gh : sxGh} (hg : sxGd sxKw gh) : sxCtV sxKw gh ct977 := sxMeB_ok (cts := []) (cuts := cu977) (sp := []) 102 (by decide +kernel) hg (by decide) (by decide) (fun _ h => absurd h List.not_mem_nil)
/-- LotBeliefs.Survey.bestEnd -/
def ct978 : sxCt := (78, 1, (2, [(1, .ofNat 0, .ofNat 4095)], [], [(0, .inl 74), (1, .inr (false, (1, .ofNat 0)))], [], [], [], []), [], [
  (3, [(2, .ofNat 0, .ofNat 127)], [], [], [.inr (false, (2, .ofNat 0))], [], [], [])], [], 0, 0)
def cu978 : List sxCu := [
  (7, (5, [(1, .ofNat 0, .ofNat 4095), (2, .ofNat 0, .ofNat 127), (3, .negSucc 0, .ofNat 63), (4, .ofNat 0, .ofNat 128)], [(2, 4, .ofNat 0)], [(0, .inl 74), (1, .inr (false, (1, .ofNat 0))), (2, .inr (false, (2, .ofNat 0))), (3, .inr (false, (3, .ofNat 0))), (4, .inr (false, (4, .ofNat 0)))], [], [], [], []), ((0, 4, .ofNat 128), (0, 0, .ofNat 0), (0, 0, .ofNat 0)), 0, 0)]
set_option maxRecDepth 1000000 in
theorem cv978 {gh : sxGh} (hg : sxGd sxKw gh) : sxCtV sxKw gh ct978 := sxMeB_ok (cts := [ct977]) (cuts := cu978) (sp := []) 122 (by decide +kernel) hg (by decide) (by decide) (List.forall_mem_cons.mpr ⟨cv977 hg, (fun _ h => absurd h List.not_mem_nil)⟩)
/-- LotBeliefs.Survey.bestEnd -/
def ct980 : sxCt := (78, 1, (2, [(1, .ofNat 0, .ofNat 4095)], [], [(0, .inl 70), (1, .inr (false, (1, .ofNat 0)))], [], [], [], []), [], [
  (3, [(2, .ofNat 0, .ofNat 127)], [], [], [.inr (false, (2, .ofNat 0))], [], [], [])], [], 0, 0)
def cu980 : List sxCu := [
  (7, (5, [(1, .ofNat 0, .ofNat 4095), (2, .ofNat 0, .ofNat 127), (3, .negSucc 0, .ofNat 63), (4, .ofNat 0, .ofNat 128)], [(2, 4, .ofNat 0)], [(0, .inl 70), (1, .inr (false, (1, .ofNat 0))), (2, .inr (false, (2, .ofNat 0))), (3, .inr (false, (3, .ofNat 0))), (4, .inr (false, (4, .ofNat 0)))], [], [], [], []), ((0, 4, .ofNat 128), (0, 0, .ofNat 0), (0, 0, .ofNat 0)), 0, 0)]
set_option maxRecDepth 1000000 in
theorem cv980 {gh : sxGh} (hg : sxGd sxKw gh) : sxCtV sxKw gh ct980 := sxMeB_ok (cts := [ct977]) (cuts := cu980) (sp := []) 122 (by decide +kernel) hg (by decide) (by decide) (List.forall_mem_cons.mpr ⟨cv977 hg, (fun _ h => absurd h List.not_mem_nil)⟩)
/-- LotBeliefs.Survey.bestEnd -/
def ct981 : sxCt := (78, 1, (2, [(1, .ofNat 0, .ofNat 4095)], [], [(0, .inl 66), (1, .inr (false, (1, .ofNat 0)))], [], [], [], []), [], [
  (3, [(2, .ofNat 0, .ofNat 127)], [], [], [.inr (false, (2, .ofNat 0))], [], [], [])], [], 0, 0)
def cu981 : List sxCu := [
  (7, (5, [(1, .ofNat 0, .ofNat 4095), (2, .ofNat 0, .ofNat 127), (3, .negSucc 0, .ofNat 63), (4, .ofNat 0, .ofNat 128)], [(2, 4, .ofNat 0)], [(0, .inl 66), (1, .inr (false, (1, .ofNat 0))), (2, .inr (false, (2, .ofNat 0))), (3, .inr (false, (3, .ofNat 0))), (4, .inr (false, (4, .ofNat 0)))], [], [], [], []), ((0, 4, .ofNat 128), (0, 0, .ofNat 0), (0, 0, .ofNat 0)), 0, 0)]
set_option maxRecDepth 1000000 in
theorem cv981 {gh : sxGh} (hg : sxGd sxKw gh) : sxCtV sxKw gh ct981 := sxMeB_ok (cts := [ct977]) (cuts := cu981) (sp := []) 122 (by decide +kernel) hg (by decide) (by decide) (List.forall_mem_cons.mpr ⟨cv977 hg, (fun _ h => absurd h List.not_mem_nil)⟩)
/-- LotBeliefs.Survey.bestEnd -/
def ct982 : sxCt := (78, 1, (2, [(1, .ofNat 0, .ofNat 4095)], [], [(0, .inl 62), (1, .inr (false, (1, .ofNat 0)))], [], [], [], []), [], [
  (3, [(2, .ofNat 0, .ofNat 127)], [], [], [.inr (false, (2, .ofNat 0))], [], [], [])], [], 0, 0)
def cu982 : List sxCu := [
  (7, (5, [(1, .ofNat 0, .ofNat 4095), (2, .ofNat 0, .ofNat 127), (3, .negSucc 0, .ofNat 63), (4, .ofNat 0, .ofNat 128)], [(2, 4, .ofNat 0)], [(0, .inl 62), (1, .inr (false, (1, .ofNat 0))), (2, .inr (false, (2, .ofNat 0))), (3, .inr (false, (3, .ofNat 0))), (4, .inr (false, (4, .ofNat 0)))], [], [], [], []), ((0, 4, .ofNat 128), (0, 0, .ofNat 0), (0, 0, .ofNat 0)), 0, 0)]
set_option maxRecDepth 1000000 in
theorem cv982 {gh : sxGh} (hg : sxGd sxKw gh) : sxCtV sxKw gh ct982 := sxMeB_ok (cts := [ct977]) (cuts := cu982) (sp := []) 122 (by decide +kernel) hg (by decide) (by decide) (List.forall_mem_cons.mpr ⟨cv977 hg, (fun _ h => absurd h List.not_mem_nil)⟩)
/-- LotBeliefs.Survey.bestEnd -/
def ct983 : sxCt := (78, 1, (2, [(1, .ofNat 0, .ofNat 4095)], [], [(0, .inl 58), (1, .inr (false, (1, .ofNat 0)))], [], [], [], []), [], [
  (3, [(2, .ofNat 0, .ofNat 127)], [], [], [.inr (false, (2, .ofNat 0))], [], [], [])], [], 0, 0)
def cu983 : List sxCu := [
  (7, (5, [(1, .ofNat 0, .ofNat 4095), (2, .ofNat 0, .ofNat 127), (3, .negSucc 0, .ofNat 63), (4, .ofNat 0, .ofNat 128)], [(2, 4, .ofNat 0)], [(0, .inl 58), (1, .inr (false, (1, .ofNat 0))), (2, .inr (false, (2, .ofNat 0))), (3, .inr (false, (3, .ofNat 0))), (4, .inr (false, (4, .ofNat 0)))], [], [], [], []), ((0, 4, .ofNat 128), (0, 0, .ofNat 0), (0, 0, .ofNat 0)), 0, 0)]
set_option maxRecDepth 1000000 in
theorem cv983 {gh : sxGh} (hg : sxGd sxKw gh) : sxCtV sxKw gh ct983 := sxMeB_ok (cts := [ct977]) (cuts := cu983) (sp := []) 122 (by decide +kernel) hg (by decide) (by decide) (List.forall_mem_cons.mpr ⟨cv977 hg, (fun _ h => absurd h List.not_mem_nil)⟩)
/-- LotBeliefsModel.fits -/
def ct984 : sxCt := (295, 3, (3, [(1, .ofNat 0, .ofNat 4095), (2, .ofNat 0, .ofNat 51)], [], [(0, .inl 78), (1, .inr (false, (1, .ofNat 0))), (2, .inr (false, (2, .ofNat 0)))], [], [(82, (0, .ofNat 1), .inr (false, (0, .ofNat 12)))], [], []), [(78, 1)], [
  (3, [], [], [], [.inr (false, (0, .ofNat 1))], [(78, (0, .ofNat 0), .inr (false, (0, .ofNat 0))), (82, (0, .ofNat 1), .inr (false, (0, .ofNat 12)))], [], []), 
  (3, [], [], [], [.inr (false, (0, .ofNat 0))], [(78, (0, .ofNat 0), .inr (false, (0, .ofNat 0))), (82, (0, .ofNat 1), .inr (false, (0, .ofNat 12)))], [], [])], [], 0, 0)
def cu984 : List sxCu := []
set_option maxRecDepth 1000000 in
theorem cv984 {gh : sxGh} (hg : sxGd sxKw gh) : sxCtV sxKw gh ct984 := sxMeB_ok (cts := [ct461]) (cuts := cu984) (sp := []) 141 (by decide +kernel) hg (by decide) (by decide) (List.forall_mem_cons.mpr ⟨cv461 hg, (fun _ h => absurd h List.not_mem_nil)⟩)
/-- LotBeliefsModel.fits -/
def ct985 : sxCt := (295, 3, (3, [(1, .ofNat 0, .ofNat 2047), (2, .ofNat 0, .ofNat 51)], [], [(0, .inl 78), (1, .inr (false, (1, .ofNat 0))), (2, .inr (false, (2, .ofNat 0)))], [], [(82, (0, .ofNat 1), .inr (false, (0, .ofNat 11)))], [], []), [(78, 1)], [
  (3, [], [], [], [.inr (false, (0, .ofNat 1))], [(78, (0, .ofNat 0), .inr (false, (0, .ofNat 0))), (82, (0, .ofNat 1), .inr (false, (0, .ofNat 11)))], [], []), 
  (3, [], [], [], [.inr (false, (0, .ofNat 0))], [(78, (0, .ofNat 0), .inr (false, (0, .ofNat 0))), (82, (0, .ofNat 1), .inr (false, (0, .ofNat 11)))], [], [])], [], 0, 0)
def cu985 : List sxCu := []
set_option maxRecDepth 1000000 in
theorem cv985 {gh : sxGh} (hg : sxGd sxKw gh) : sxCtV sxKw gh ct985 := sxMeB_ok (cts := [ct461]) (cuts := cu985) (sp := []) 141 (by decide +kernel) hg (by decide) (by decide) (List.forall_mem_cons.mpr ⟨cv461 hg, (fun _ h => absurd h List.not_mem_nil)⟩)
/-- LotBeliefsModel.fits -/
def ct986 : sxCt := (295, 3, (3, [(1, .ofNat 0, .ofNat 1023), (2, .ofNat 0, .ofNat 51)], [], [(0, .inl 78), (1, .inr (false, (1, .ofNat 0))), (2, .inr (false, (2, .ofNat 0)))], [], [(82, (0, .ofNat 1), .inr (false, (0, .ofNat 10)))], [], []), [(78, 1)], [
  (3, [], [], [], [.inr (false, (0, .ofNat 1))], [(78, (0, .ofNat 0), .inr (false, (0, .ofNat 0))), (82, (0, .ofNat 1), .inr (false, (0, .ofNat 10)))], [], []), 
  (3, [], [], [], [.inr (false, (0, .ofNat 0))], [(78, (0, .ofNat 0), .inr (false, (0, .ofNat 0))), (82, (0, .ofNat 1), .inr (false, (0, .ofNat 10)))], [], [])], [], 0, 0)
def cu986 : List sxCu := []
set_option maxRecDepth 1000000 in
theorem cv986 {gh : sxGh} (hg : sxGd sxKw gh) : sxCtV sxKw gh ct986 := sxMeB_ok (cts := [ct461]) (cuts := cu986) (sp := []) 141 (by decide +kernel) hg (by decide) (by decide) (List.forall_mem_cons.mpr ⟨cv461 hg, (fun _ h => absurd h List.not_mem_nil)⟩)
/-- LotBeliefs.Jar.common -/
def ct987 : sxCt := (28, 0, (3, [(1, .ofNat 0, .ofNat 600), (2, .ofNat 0, .ofNat 51)], [], [(0, .inl 3), (1, .inr (false, (1, .ofNat 0))), (2, .inr (false, (2, .ofNat 0)))], [], [], [], []), [], [
  (4, [(3, .negSucc 9223372036854775807, .ofNat 9223372036854775807)], [], [], [.inr (true, (3, .ofNat 0))], [], [], [])], [], 0, 0)
def cu987 : List sxCu := [
  (10, (5, [(1, .ofNat 0, .ofNat 600), (2, .ofNat 0, .ofNat 51), (3, .negSucc 9223372036854775807, .ofNat 9223372036854775807), (4, .ofNat 0, .ofNat 12)], [], [(0, .inl 3), (1, .inr (false, (1, .ofNat 0))), (2, .inr (false, (2, .ofNat 0))), (3, .inr (true, (3, .ofNat 0))), (5, .inr (false, (4, .ofNat 0)))], [], [(3, (0, .ofNat 11), .inl 8)], [], []), ((0, 4, .ofNat 12), (0, 0, .ofNat 0), (0, 0, .ofNat 0)), 0, 0)]
set_option maxRecDepth 1000000 in
theorem cv987 {gh : sxGh} (hg : sxGd sxKw gh) : sxCtV sxKw gh ct987 := sxMeB_ok (cts := []) (cuts := cu987) (sp := []) 90 (by decide +kernel) hg (by decide) (by decide) (fun _ h => absurd h List.not_mem_nil)
/-- LotBeliefsModel.togetherIn -/
def ct988 : sxCt := (274, 0, (3, [(1, .ofNat 0, .ofNat 600), (2, .ofNat 0, .ofNat 51)], [], [(0, .inl 78), (1, .inr (false, (1, .ofNat 0))), (2, .inr (false, (2, .ofNat 0)))], [], [], [], []), [], [
  (4, [(3, .negSucc 9223372036854775807, .ofNat 9223372036854775807)], [], [], [.inr (true, (3, .ofNat 0))], [], [], [])], [], 0, 0)
def cu988 : List sxCu := [
  (10, (5, [(1, .ofNat 0, .ofNat 600), (2, .ofNat 0, .ofNat 51), (3, .negSucc 9223372036854775807, .ofNat 9223372036854775807), (4, .ofNat 0, .ofNat 12)], [], [(0, .inl 78), (1, .inr (false, (1, .ofNat 0))), (2, .inr (false, (2, .ofNat 0))), (3, .inr (true, (3, .ofNat 0))), (5, .inr (false, (4, .ofNat 0)))], [], [(78, (0, .ofNat 19), .inl 89)], [], []), ((0, 4, .ofNat 12), (0, 0, .ofNat 0), (0, 0, .ofNat 0)), 0, 0)]
set_option maxRecDepth 1000000 in
theorem cv988 {gh : sxGh} (hg : sxGd sxKw gh) : sxCtV sxKw gh ct988 := sxMeB_ok (cts := []) (cuts := cu988) (sp := []) 97 (by decide +kernel) hg (by decide) (by decide) (fun _ h => absurd h List.not_mem_nil)
/-- LotBeliefsModel.fits -/
def ct989 : sxCt := (295, 3, (3, [(1, .ofNat 0, .ofNat 511), (2, .ofNat 0, .ofNat 51)], [], [(0, .inl 78), (1, .inr (false, (1, .ofNat 0))), (2, .inr (false, (2, .ofNat 0)))], [], [(82, (0, .ofNat 1), .inr (false, (0, .ofNat 9)))], [], []), [(78, 1)], [
  (3, [], [], [], [.inr (false, (0, .ofNat 1))], [(78, (0, .ofNat 0), .inr (false, (0, .ofNat 0))), (82, (0, .ofNat 1), .inr (false, (0, .ofNat 9)))], [], []), 
  (3, [], [], [], [.inr (false, (0, .ofNat 0))], [(78, (0, .ofNat 0), .inr (false, (0, .ofNat 0))), (82, (0, .ofNat 1), .inr (false, (0, .ofNat 9)))], [], [])], [], 0, 0)
def cu989 : List sxCu := []
set_option maxRecDepth 1000000 in
theorem cv989 {gh : sxGh} (hg : sxGd sxKw gh) : sxCtV sxKw gh ct989 := sxMeB_ok (cts := [ct988]) (cuts := cu989) (sp := []) 141 (by decide +kernel) hg (by decide) (by decide) (List.forall_mem_cons.mpr ⟨cv988 hg, (fun _ h => absurd h List.not_mem_nil)⟩)
/-- LotBeliefs.Jar.common -/
def ct990 : sxCt := (28, 0, (3, [(1, .ofNat 0, .ofNat 255), (2, .ofNat 0, .ofNat 51)], [], [(0, .inl 3), (1, .inr (false, (1, .ofNat 0))), (2, .inr (false, (2, .ofNat 0)))], [], [], [], []), [], [
  (4, [(3, .negSucc 9223372036854775807, .ofNat 9223372036854775807)], [], [], [.inr (true, (3, .ofNat 0))], [], [], [])], [], 0, 0)
def cu990 : List sxCu := [
  (10, (5, [(1, .ofNat 0, .ofNat 255), (2, .ofNat 0, .ofNat 51), (3, .negSucc 9223372036854775807, .ofNat 9223372036854775807), (4, .ofNat 0, .ofNat 12)], [], [(0, .inl 3), (1, .inr (false, (1, .ofNat 0))), (2, .inr (false, (2, .ofNat 0))), (3, .inr (true, (3, .ofNat 0))), (5, .inr (false, (4, .ofNat 0)))], [], [(3, (0, .ofNat 11), .inl 8)], [], []), ((0, 4, .ofNat 12), (0, 0, .ofNat 0), (0, 0, .ofNat 0)), 0, 0)]
set_option maxRecDepth 1000000 in
theorem cv990 {gh : sxGh} (hg : sxGd sxKw gh) : sxCtV sxKw gh ct990 := sxMeB_ok (cts := []) (cuts := cu990) (sp := []) 90 (by decide +kernel) hg (by decide) (by decide) (fun _ h => absurd h List.not_mem_nil)
/-- LotBeliefsModel.togetherIn -/
def ct991 : sxCt := (274, 0, (3, [(1, .ofNat 0, .ofNat 255), (2, .ofNat 0, .ofNat 51)], [], [(0, .inl 78), (1, .inr (false, (1, .ofNat 0))), (2, .inr (false, (2, .ofNat 0)))], [], [], [], []), [], [
  (4, [(3, .negSucc 9223372036854775807, .ofNat 9223372036854775807)], [], [], [.inr (true, (3, .ofNat 0))], [], [], [])], [], 0, 0)
def cu991 : List sxCu := [
  (10, (5, [(1, .ofNat 0, .ofNat 255), (2, .ofNat 0, .ofNat 51), (3, .negSucc 9223372036854775807, .ofNat 9223372036854775807), (4, .ofNat 0, .ofNat 12)], [], [(0, .inl 78), (1, .inr (false, (1, .ofNat 0))), (2, .inr (false, (2, .ofNat 0))), (3, .inr (true, (3, .ofNat 0))), (5, .inr (false, (4, .ofNat 0)))], [], [(78, (0, .ofNat 19), .inl 89)], [], []), ((0, 4, .ofNat 12), (0, 0, .ofNat 0), (0, 0, .ofNat 0)), 0, 0)]
set_option maxRecDepth 1000000 in
theorem cv991 {gh : sxGh} (hg : sxGd sxKw gh) : sxCtV sxKw gh ct991 := sxMeB_ok (cts := []) (cuts := cu991) (sp := []) 97 (by decide +kernel) hg (by decide) (by decide) (fun _ h => absurd h List.not_mem_nil)
/-- LotBeliefsModel.fits -/
def ct992 : sxCt := (295, 3, (3, [(1, .ofNat 0, .ofNat 255), (2, .ofNat 0, .ofNat 51)], [], [(0, .inl 78), (1, .inr (false, (1, .ofNat 0))), (2, .inr (false, (2, .ofNat 0)))], [], [(82, (0, .ofNat 1), .inr (false, (0, .ofNat 8)))], [], []), [(78, 1)], [
  (3, [], [], [], [.inr (false, (0, .ofNat 1))], [(78, (0, .ofNat 0), .inr (false, (0, .ofNat 0))), (82, (0, .ofNat 1), .inr (false, (0, .ofNat 8)))], [], []), 
  (3, [], [], [], [.inr (false, (0, .ofNat 0))], [(78, (0, .ofNat 0), .inr (false, (0, .ofNat 0))), (82, (0, .ofNat 1), .inr (false, (0, .ofNat 8)))], [], [])], [], 0, 0)
def cu992 : List sxCu := []
set_option maxRecDepth 1000000 in
theorem cv992 {gh : sxGh} (hg : sxGd sxKw gh) : sxCtV sxKw gh ct992 := sxMeB_ok (cts := [ct991]) (cuts := cu992) (sp := []) 141 (by decide +kernel) hg (by decide) (by decide) (List.forall_mem_cons.mpr ⟨cv991 hg, (fun _ h => absurd h List.not_mem_nil)⟩)
/-- LotBeliefs.Jar.common -/
def ct993 : sxCt := (28, 0, (3, [(1, .ofNat 0, .ofNat 127), (2, .ofNat 0, .ofNat 51)], [], [(0, .inl 3), (1, .inr (false, (1, .ofNat 0))), (2, .inr (false, (2, .ofNat 0)))], [], [], [], []), [], [
  (4, [(3, .negSucc 9223372036854775807, .ofNat 9223372036854775807)], [], [], [.inr (true, (3, .ofNat 0))], [], [], [])], [], 0, 0)
def cu993 : List sxCu := [
  (10, (5, [(1, .ofNat 0, .ofNat 127), (2, .ofNat 0, .ofNat 51), (3, .negSucc 9223372036854775807, .ofNat 9223372036854775807), (4, .ofNat 0, .ofNat 12)], [], [(0, .inl 3), (1, .inr (false, (1, .ofNat 0))), (2, .inr (false, (2, .ofNat 0))), (3, .inr (true, (3, .ofNat 0))), (5, .inr (false, (4, .ofNat 0)))], [], [(3, (0, .ofNat 11), .inl 8)], [], []), ((0, 4, .ofNat 12), (0, 0, .ofNat 0), (0, 0, .ofNat 0)), 0, 0)]
set_option maxRecDepth 1000000 in
theorem cv993 {gh : sxGh} (hg : sxGd sxKw gh) : sxCtV sxKw gh ct993 := sxMeB_ok (cts := []) (cuts := cu993) (sp := []) 90 (by decide +kernel) hg (by decide) (by decide) (fun _ h => absurd h List.not_mem_nil)
/-- LotBeliefsModel.togetherIn -/
def ct994 : sxCt := (274, 0, (3, [(1, .ofNat 0, .ofNat 127), (2, .ofNat 0, .ofNat 51)], [], [(0, .inl 78), (1, .inr (false, (1, .ofNat 0))), (2, .inr (false, (2, .ofNat 0)))], [], [], [], []), [], [
  (4, [(3, .negSucc 9223372036854775807, .ofNat 9223372036854775807)], [], [], [.inr (true, (3, .ofNat 0))], [], [], [])], [], 0, 0)
def cu994 : List sxCu := [
  (10, (5, [(1, .ofNat 0, .ofNat 127), (2, .ofNat 0, .ofNat 51), (3, .negSucc 9223372036854775807, .ofNat 9223372036854775807), (4, .ofNat 0, .ofNat 12)], [], [(0, .inl 78), (1, .inr (false, (1, .ofNat 0))), (2, .inr (false, (2, .ofNat 0))), (3, .inr (true, (3, .ofNat 0))), (5, .inr (false, (4, .ofNat 0)))], [], [(78, (0, .ofNat 19), .inl 89)], [], []), ((0, 4, .ofNat 12), (0, 0, .ofNat 0), (0, 0, .ofNat 0)), 0, 0)]
set_option maxRecDepth 1000000 in
theorem cv994 {gh : sxGh} (hg : sxGd sxKw gh) : sxCtV sxKw gh ct994 := sxMeB_ok (cts := []) (cuts := cu994) (sp := []) 97 (by decide +kernel) hg (by decide) (by decide) (fun _ h => absurd h List.not_mem_nil)
/-- LotBeliefsModel.fits -/
def ct995 : sxCt := (295, 3, (3, [(1, .ofNat 0, .ofNat 127), (2, .ofNat 0, .ofNat 51)], [], [(0, .inl 78), (1, .inr (false, (1, .ofNat 0))), (2, .inr (false, (2, .ofNat 0)))], [], [(82, (0, .ofNat 1), .inr (false, (0, .ofNat 7)))], [], []), [(78, 1)], [
  (3, [], [], [], [.inr (false, (0, .ofNat 1))], [(78, (0, .ofNat 0), .inr (false, (0, .ofNat 0))), (82, (0, .ofNat 1), .inr (false, (0, .ofNat 7)))], [], []), 
  (3, [], [], [], [.inr (false, (0, .ofNat 0))], [(78, (0, .ofNat 0), .inr (false, (0, .ofNat 0))), (82, (0, .ofNat 1), .inr (false, (0, .ofNat 7)))], [], [])], [], 0, 0)
def cu995 : List sxCu := []
set_option maxRecDepth 1000000 in
theorem cv995 {gh : sxGh} (hg : sxGd sxKw gh) : sxCtV sxKw gh ct995 := sxMeB_ok (cts := [ct994]) (cuts := cu995) (sp := []) 141 (by decide +kernel) hg (by decide) (by decide) (List.forall_mem_cons.mpr ⟨cv994 hg, (fun _ h => absurd h List.not_mem_nil)⟩)
/-- LotBeliefs.Jar.common -/
def ct996 : sxCt := (28, 0, (3, [(1, .ofNat 0, .ofNat 63), (2, .ofNat 0, .ofNat 51)], [], [(0, .inl 3), (1, .inr (false, (1, .ofNat 0))), (2, .inr (false, (2, .ofNat 0)))], [], [], [], []), [], [
  (4, [(3, .negSucc 9223372036854775807, .ofNat 9223372036854775807)], [], [], [.inr (true, (3, .ofNat 0))], [], [], [])], [], 0, 0)
def cu996 : List sxCu := [
  (10, (5, [(1, .ofNat 0, .ofNat 63), (2, .ofNat 0, .ofNat 51), (3, .negSucc 9223372036854775807, .ofNat 9223372036854775807), (4, .ofNat 0, .ofNat 12)], [], [(0, .inl 3), (1, .inr (false, (1, .ofNat 0))), (2, .inr (false, (2, .ofNat 0))), (3, .inr (true, (3, .ofNat 0))), (5, .inr (false, (4, .ofNat 0)))], [], [(3, (0, .ofNat 11), .inl 8)], [], []), ((0, 4, .ofNat 12), (0, 0, .ofNat 0), (0, 0, .ofNat 0)), 0, 0)]
set_option maxRecDepth 1000000 in
theorem cv996 {gh : sxGh} (hg : sxGd sxKw gh) : sxCtV sxKw gh ct996 := sxMeB_ok (cts := []) (cuts := cu996) (sp := []) 90 (by decide +kernel) hg (by decide) (by decide) (fun _ h => absurd h List.not_mem_nil)
/-- LotBeliefsModel.togetherIn -/
def ct997 : sxCt := (274, 0, (3, [(1, .ofNat 0, .ofNat 63), (2, .ofNat 0, .ofNat 51)], [], [(0, .inl 78), (1, .inr (false, (1, .ofNat 0))), (2, .inr (false, (2, .ofNat 0)))], [], [], [], []), [], [
  (4, [(3, .negSucc 9223372036854775807, .ofNat 9223372036854775807)], [], [], [.inr (true, (3, .ofNat 0))], [], [], [])], [], 0, 0)
def cu997 : List sxCu := [
  (10, (5, [(1, .ofNat 0, .ofNat 63), (2, .ofNat 0, .ofNat 51), (3, .negSucc 9223372036854775807, .ofNat 9223372036854775807), (4, .ofNat 0, .ofNat 12)], [], [(0, .inl 78), (1, .inr (false, (1, .ofNat 0))), (2, .inr (false, (2, .ofNat 0))), (3, .inr (true, (3, .ofNat 0))), (5, .inr (false, (4, .ofNat 0)))], [], [(78, (0, .ofNat 19), .inl 89)], [], []), ((0, 4, .ofNat 12), (0, 0, .ofNat 0), (0, 0, .ofNat 0)), 0, 0)]
set_option maxRecDepth 1000000 in
theorem cv997 {gh : sxGh} (hg : sxGd sxKw gh) : sxCtV sxKw gh ct997 := sxMeB_ok (cts := []) (cuts := cu997) (sp := []) 97 (by decide +kernel) hg (by decide) (by decide) (fun _ h => absurd h List.not_mem_nil)
/-- LotBeliefsModel.fits -/
def ct998 : sxCt := (295, 3, (3, [(1, .ofNat 0, .ofNat 63), (2, .ofNat 0, .ofNat 51)], [], [(0, .inl 78), (1, .inr (false, (1, .ofNat 0))), (2, .inr (false, (2, .ofNat 0)))], [], [(82, (0, .ofNat 1), .inr (false, (0, .ofNat 6)))], [], []), [(78, 1)], [
  (3, [], [], [], [.inr (false, (0, .ofNat 1))], [(78, (0, .ofNat 0), .inr (false, (0, .ofNat 0))), (82, (0, .ofNat 1), .inr (false, (0, .ofNat 6)))], [], []), 
  (3, [], [], [], [.inr (false, (0, .ofNat 0))], [(78, (0, .ofNat 0), .inr (false, (0, .ofNat 0))), (82, (0, .ofNat 1), .inr (false, (0, .ofNat 6)))], [], [])], [], 0, 0)
def cu998 : List sxCu := []
set_option maxRecDepth 1000000 in
theorem cv998 {gh : sxGh} (hg : sxGd sxKw gh) : sxCtV sxKw gh ct998 := sxMeB_ok (cts := [ct997]) (cuts := cu998) (sp := []) 141 (by decide +kernel) hg (by decide) (by decide) (List.forall_mem_cons.mpr ⟨cv997 hg, (fun _ h => absurd h List.not_mem_nil)⟩)
/-- LotBeliefs.Jar.common -/
def ct999 : sxCt := (28, 0, (3, [(1, .ofNat 0, .ofNat 39), (2, .ofNat 0, .ofNat 51)], [], [(0, .inl 3), (1, .inr (false, (1, .ofNat 0))), (2, .inr (false, (2, .ofNat 0)))], [], [], [], []), [], [
  (4, [(3, .negSucc 9223372036854775807, .ofNat 9223372036854775807)], [], [], [.inr (true, (3, .ofNat 0))], [], [], [])], [], 0, 0)
def cu999 : List sxCu := [
  (10, (5, [(1, .ofNat 0, .ofNat 39), (2, .ofNat 0, .ofNat 51), (3, .negSucc 9223372036854775807, .ofNat 9223372036854775807), (4, .ofNat 0, .ofNat 12)], [], [(0, .inl 3), (1, .inr (false, (1, .ofNat 0))), (2, .inr (false, (2, .ofNat 0))), (3, .inr (true, (3, .ofNat 0))), (5, .inr (false, (4, .ofNat 0)))], [], [(3, (0, .ofNat 11), .inl 8)], [], []), ((0, 4, .ofNat 12), (0, 0, .ofNat 0), (0, 0, .ofNat 0)), 0, 0)]
set_option maxRecDepth 1000000 in
theorem cv999 {gh : sxGh} (hg : sxGd sxKw gh) : sxCtV sxKw gh ct999 := sxMeB_ok (cts := []) (cuts := cu999) (sp := []) 90 (by decide +kernel) hg (by decide) (by decide) (fun _ h => absurd h List.not_mem_nil)
/-- LotBeliefsModel.togetherIn -/
def ct1000 : sxCt := (274, 0, (3, [(1, .ofNat 0, .ofNat 39), (2, .ofNat 0, .ofNat 51)], [], [(0, .inl 78), (1, .inr (false, (1, .ofNat 0))), (2, .inr (false, (2, .ofNat 0)))], [], [], [], []), [], [
  (4, [(3, .negSucc 9223372036854775807, .ofNat 9223372036854775807)], [], [], [.inr (true, (3, .ofNat 0))], [], [], [])], [], 0, 0)
def cu1000 : List sxCu := [
  (10, (5, [(1, .ofNat 0, .ofNat 39), (2, .ofNat 0, .ofNat 51), (3, .negSucc 9223372036854775807, .ofNat 9223372036854775807), (4, .ofNat 0, .ofNat 12)], [], [(0, .inl 78), (1, .inr (false, (1, .ofNat 0))), (2, .inr (false, (2, .ofNat 0))), (3, .inr (true, (3, .ofNat 0))), (5, .inr (false, (4, .ofNat 0)))], [], [(78, (0, .ofNat 19), .inl 89)], [], []), ((0, 4, .ofNat 12), (0, 0, .ofNat 0), (0, 0, .ofNat 0)), 0, 0)]
set_option maxRecDepth 1000000 in
theorem cv1000 {gh : sxGh} (hg : sxGd sxKw gh) : sxCtV sxKw gh ct1000 := sxMeB_ok (cts := []) (cuts := cu1000) (sp := []) 97 (by decide +kernel) hg (by decide) (by decide) (fun _ h => absurd h List.not_mem_nil)
/-- LotBeliefsModel.fits -/
def ct1001 : sxCt := (295, 3, (3, [(1, .ofNat 0, .ofNat 31), (2, .ofNat 0, .ofNat 51)], [], [(0, .inl 78), (1, .inr (false, (1, .ofNat 0))), (2, .inr (false, (2, .ofNat 0)))], [], [(82, (0, .ofNat 1), .inr (false, (0, .ofNat 5)))], [], []), [(78, 1)], [
  (3, [], [], [], [.inr (false, (0, .ofNat 1))], [(78, (0, .ofNat 0), .inr (false, (0, .ofNat 0))), (82, (0, .ofNat 1), .inr (false, (0, .ofNat 5)))], [], []), 
  (3, [], [], [], [.inr (false, (0, .ofNat 0))], [(78, (0, .ofNat 0), .inr (false, (0, .ofNat 0))), (82, (0, .ofNat 1), .inr (false, (0, .ofNat 5)))], [], [])], [], 0, 0)
def cu1001 : List sxCu := []
set_option maxRecDepth 1000000 in
theorem cv1001 {gh : sxGh} (hg : sxGd sxKw gh) : sxCtV sxKw gh ct1001 := sxMeB_ok (cts := [ct1000]) (cuts := cu1001) (sp := []) 141 (by decide +kernel) hg (by decide) (by decide) (List.forall_mem_cons.mpr ⟨cv1000 hg, (fun _ h => absurd h List.not_mem_nil)⟩)
/-- LotBeliefs.Jar.common -/
def ct1002 : sxCt := (28, 0, (3, [(1, .ofNat 0, .ofNat 15), (2, .ofNat 0, .ofNat 51)], [], [(0, .inl 3), (1, .inr (false, (1, .ofNat 0))), (2, .inr (false, (2, .ofNat 0)))], [], [], [], []), [], [
  (4, [(3, .negSucc 9223372036854775807, .ofNat 9223372036854775807)], [], [], [.inr (true, (3, .ofNat 0))], [], [], [])], [], 0, 0)
def cu1002 : List sxCu := [
  (10, (5, [(1, .ofNat 0, .ofNat 15), (2, .ofNat 0, .ofNat 51), (3, .negSucc 9223372036854775807, .ofNat 9223372036854775807), (4, .ofNat 0, .ofNat 12)], [], [(0, .inl 3), (1, .inr (false, (1, .ofNat 0))), (2, .inr (false, (2, .ofNat 0))), (3, .inr (true, (3, .ofNat 0))), (5, .inr (false, (4, .ofNat 0)))], [], [(3, (0, .ofNat 11), .inl 8)], [], []), ((0, 4, .ofNat 12), (0, 0, .ofNat 0), (0, 0, .ofNat 0)), 0, 0)]
set_option maxRecDepth 1000000 in
theorem cv1002 {gh : sxGh} (hg : sxGd sxKw gh) : sxCtV sxKw gh ct1002 := sxMeB_ok (cts := []) (cuts := cu1002) (sp := []) 90 (by decide +kernel) hg (by decide) (by decide) (fun _ h => absurd h List.not_mem_nil)
/-- LotBeliefsModel.togetherIn -/
def ct1003 : sxCt := (274, 0, (3, [(1, .ofNat 0, .ofNat 15), (2, .ofNat 0, .ofNat 51)], [], [(0, .inl 78), (1, .inr (false, (1, .ofNat 0))), (2, .inr (false, (2, .ofNat 0)))], [], [], [], []), [], [
  (4, [(3, .negSucc 9223372036854775807, .ofNat 9223372036854775807)], [], [], [.inr (true, (3, .ofNat 0))], [], [], [])], [], 0, 0)
def cu1003 : List sxCu := [
  (10, (5, [(1, .ofNat 0, .ofNat 15), (2, .ofNat 0, .ofNat 51), (3, .negSucc 9223372036854775807, .ofNat 9223372036854775807), (4, .ofNat 0, .ofNat 12)], [], [(0, .inl 78), (1, .inr (false, (1, .ofNat 0))), (2, .inr (false, (2, .ofNat 0))), (3, .inr (true, (3, .ofNat 0))), (5, .inr (false, (4, .ofNat 0)))], [], [(78, (0, .ofNat 19), .inl 89)], [], []), ((0, 4, .ofNat 12), (0, 0, .ofNat 0), (0, 0, .ofNat 0)), 0, 0)]
set_option maxRecDepth 1000000 in
theorem cv1003 {gh : sxGh} (hg : sxGd sxKw gh) : sxCtV sxKw gh ct1003 := sxMeB_ok (cts := []) (cuts := cu1003) (sp := []) 97 (by decide +kernel) hg (by decide) (by decide) (fun _ h => absurd h List.not_mem_nil)
/-- LotBeliefsModel.fits -/
def ct1004 : sxCt := (295, 3, (3, [(1, .ofNat 0, .ofNat 15), (2, .ofNat 0, .ofNat 51)], [], [(0, .inl 78), (1, .inr (false, (1, .ofNat 0))), (2, .inr (false, (2, .ofNat 0)))], [], [(82, (0, .ofNat 1), .inr (false, (0, .ofNat 4)))], [], []), [(78, 1)], [
  (3, [], [], [], [.inr (false, (0, .ofNat 1))], [(78, (0, .ofNat 0), .inr (false, (0, .ofNat 0))), (82, (0, .ofNat 1), .inr (false, (0, .ofNat 4)))], [], []), 
  (3, [], [], [], [.inr (false, (0, .ofNat 0))], [(78, (0, .ofNat 0), .inr (false, (0, .ofNat 0))), (82, (0, .ofNat 1), .inr (false, (0, .ofNat 4)))], [], [])], [], 0, 0)
def cu1004 : List sxCu := []
set_option maxRecDepth 1000000 in
theorem cv1004 {gh : sxGh} (hg : sxGd sxKw gh) : sxCtV sxKw gh ct1004 := sxMeB_ok (cts := [ct1003]) (cuts := cu1004) (sp := []) 141 (by decide +kernel) hg (by decide) (by decide) (List.forall_mem_cons.mpr ⟨cv1003 hg, (fun _ h => absurd h List.not_mem_nil)⟩)
/-- LotBeliefs.Jar.common -/
def ct1005 : sxCt := (28, 0, (3, [(1, .ofNat 0, .ofNat 7), (2, .ofNat 0, .ofNat 51)], [], [(0, .inl 3), (1, .inr (false, (1, .ofNat 0))), (2, .inr (false, (2, .ofNat 0)))], [], [], [], []), [], [
  (4, [(3, .negSucc 9223372036854775807, .ofNat 9223372036854775807)], [], [], [.inr (true, (3, .ofNat 0))], [], [], [])], [], 0, 0)
def cu1005 : List sxCu := [
  (10, (5, [(1, .ofNat 0, .ofNat 7), (2, .ofNat 0, .ofNat 51), (3, .negSucc 9223372036854775807, .ofNat 9223372036854775807), (4, .ofNat 0, .ofNat 12)], [], [(0, .inl 3), (1, .inr (false, (1, .ofNat 0))), (2, .inr (false, (2, .ofNat 0))), (3, .inr (true, (3, .ofNat 0))), (5, .inr (false, (4, .ofNat 0)))], [], [(3, (0, .ofNat 11), .inl 8)], [], []), ((0, 4, .ofNat 12), (0, 0, .ofNat 0), (0, 0, .ofNat 0)), 0, 0)]
set_option maxRecDepth 1000000 in
theorem cv1005 {gh : sxGh} (hg : sxGd sxKw gh) : sxCtV sxKw gh ct1005 := sxMeB_ok (cts := []) (cuts := cu1005) (sp := []) 90 (by decide +kernel) hg (by decide) (by decide) (fun _ h => absurd h List.not_mem_nil)
/-- LotBeliefsModel.togetherIn -/
def ct1006 : sxCt := (274, 0, (3, [(1, .ofNat 0, .ofNat 7), (2, .ofNat 0, .ofNat 51)], [], [(0, .inl 78), (1, .inr (false, (1, .ofNat 0))), (2, .inr (false, (2, .ofNat 0)))], [], [], [], []), [], [
  (4, [(3, .negSucc 9223372036854775807, .ofNat 9223372036854775807)], [], [], [.inr (true, (3, .ofNat 0))], [], [], [])], [], 0, 0)
def cu1006 : List sxCu := [
  (10, (5, [(1, .ofNat 0, .ofNat 7), (2, .ofNat 0, .ofNat 51), (3, .negSucc 9223372036854775807, .ofNat 9223372036854775807), (4, .ofNat 0, .ofNat 12)], [], [(0, .inl 78), (1, .inr (false, (1, .ofNat 0))), (2, .inr (false, (2, .ofNat 0))), (3, .inr (true, (3, .ofNat 0))), (5, .inr (false, (4, .ofNat 0)))], [], [(78, (0, .ofNat 19), .inl 89)], [], []), ((0, 4, .ofNat 12), (0, 0, .ofNat 0), (0, 0, .ofNat 0)), 0, 0)]
set_option maxRecDepth 1000000 in
theorem cv1006 {gh : sxGh} (hg : sxGd sxKw gh) : sxCtV sxKw gh ct1006 := sxMeB_ok (cts := []) (cuts := cu1006) (sp := []) 97 (by decide +kernel) hg (by decide) (by decide) (fun _ h => absurd h List.not_mem_nil)
/-- LotBeliefsModel.fits -/
def ct1007 : sxCt := (295, 3, (3, [(1, .ofNat 0, .ofNat 7), (2, .ofNat 0, .ofNat 51)], [], [(0, .inl 78), (1, .inr (false, (1, .ofNat 0))), (2, .inr (false, (2, .ofNat 0)))], [], [(82, (0, .ofNat 1), .inr (false, (0, .ofNat 3)))], [], []), [(78, 1)], [
  (3, [], [], [], [.inr (false, (0, .ofNat 1))], [(78, (0, .ofNat 0), .inr (false, (0, .ofNat 0))), (82, (0, .ofNat 1), .inr (false, (0, .ofNat 3)))], [], []), 
  (3, [], [], [], [.inr (false, (0, .ofNat 0))], [(78, (0, .ofNat 0), .inr (false, (0, .ofNat 0))), (82, (0, .ofNat 1), .inr (false, (0, .ofNat 3)))], [], [])], [], 0, 0)
def cu1007 : List sxCu := []
set_option maxRecDepth 1000000 in
theorem cv1007 {gh : sxGh} (hg : sxGd sxKw gh) : sxCtV sxKw gh ct1007 := sxMeB_ok (cts := [ct1006]) (cuts := cu1007) (sp := []) 141 (by decide +kernel) hg (by decide) (by decide) (List.forall_mem_cons.mpr ⟨cv1006 hg, (fun _ h => absurd h List.not_mem_nil)⟩)
/-- LotBeliefs.Jar.common -/
def ct1008 : sxCt := (28, 0, (3, [(1, .ofNat 0, .ofNat 3), (2, .ofNat 0, .ofNat 51)], [], [(0, .inl 3), (1, .inr (false, (1, .ofNat 0))), (2, .inr (false, (2, .ofNat 0)))], [], [], [], []), [], [
  (4, [(3, .negSucc 9223372036854775807, .ofNat 9223372036854775807)], [], [], [.inr (true, (3, .ofNat 0))], [], [], [])], [], 0, 0)
def cu1008 : List sxCu := [
  (10, (5, [(1, .ofNat 0, .ofNat 3), (2, .ofNat 0, .ofNat 51), (3, .negSucc 9223372036854775807, .ofNat 9223372036854775807), (4, .ofNat 0, .ofNat 12)], [], [(0, .inl 3), (1, .inr (false, (1, .ofNat 0))), (2, .inr (false, (2, .ofNat 0))), (3, .inr (true, (3, .ofNat 0))), (5, .inr (false, (4, .ofNat 0)))], [], [(3, (0, .ofNat 11), .inl 8)], [], []), ((0, 4, .ofNat 12), (0, 0, .ofNat 0), (0, 0, .ofNat 0)), 0, 0)]
set_option maxRecDepth 1000000 in
theorem cv1008 {gh : sxGh} (hg : sxGd sxKw gh) : sxCtV sxKw gh ct1008 := sxMeB_ok (cts := []) (cuts := cu1008) (sp := []) 90 (by decide +kernel) hg (by decide) (by decide) (fun _ h => absurd h List.not_mem_nil)
/-- LotBeliefsModel.togetherIn -/
def ct1009 : sxCt := (274, 0, (3, [(1, .ofNat 0, .ofNat 3), (2, .ofNat 0, .ofNat 51)], [], [(0, .inl 78), (1, .inr (false, (1, .ofNat 0))), (2, .inr (false, (2, .ofNat 0)))], [], [], [], []), [], [
  (4, [(3, .negSucc 9223372036854775807, .ofNat 9223372036854775807)], [], [], [.inr (true, (3, .ofNat 0))], [], [], [])], [], 0, 0)
def cu1009 : List sxCu := [
  (10, (5, [(1, .ofNat 0, .ofNat 3), (2, .ofNat 0, .ofNat 51), (3, .negSucc 9223372036854775807, .ofNat 9223372036854775807), (4, .ofNat 0, .ofNat 12)], [], [(0, .inl 78), (1, .inr (false, (1, .ofNat 0))), (2, .inr (false, (2, .ofNat 0))), (3, .inr (true, (3, .ofNat 0))), (5, .inr (false, (4, .ofNat 0)))], [], [(78, (0, .ofNat 19), .inl 89)], [], []), ((0, 4, .ofNat 12), (0, 0, .ofNat 0), (0, 0, .ofNat 0)), 0, 0)]
set_option maxRecDepth 1000000 in
theorem cv1009 {gh : sxGh} (hg : sxGd sxKw gh) : sxCtV sxKw gh ct1009 := sxMeB_ok (cts := []) (cuts := cu1009) (sp := []) 97 (by decide +kernel) hg (by decide) (by decide) (fun _ h => absurd h List.not_mem_nil)
/-- LotBeliefsModel.fits -/
def ct1010 : sxCt := (295, 3, (3, [(1, .ofNat 0, .ofNat 3), (2, .ofNat 0, .ofNat 51)], [], [(0, .inl 78), (1, .inr (false, (1, .ofNat 0))), (2, .inr (false, (2, .ofNat 0)))], [], [(82, (0, .ofNat 1), .inr (false, (0, .ofNat 2)))], [], []), [(78, 1)], [
  (3, [], [], [], [.inr (false, (0, .ofNat 1))], [(78, (0, .ofNat 0), .inr (false, (0, .ofNat 0))), (82, (0, .ofNat 1), .inr (false, (0, .ofNat 2)))], [], []), 
  (3, [], [], [], [.inr (false, (0, .ofNat 0))], [(78, (0, .ofNat 0), .inr (false, (0, .ofNat 0))), (82, (0, .ofNat 1), .inr (false, (0, .ofNat 2)))], [], [])], [], 0, 0)
def cu1010 : List sxCu := []
set_option maxRecDepth 1000000 in
theorem cv1010 {gh : sxGh} (hg : sxGd sxKw gh) : sxCtV sxKw gh ct1010 := sxMeB_ok (cts := [ct1009]) (cuts := cu1010) (sp := []) 141 (by decide +kernel) hg (by decide) (by decide) (List.forall_mem_cons.mpr ⟨cv1009 hg, (fun _ h => absurd h List.not_mem_nil)⟩)
/-- LotBeliefs.Jar.common -/
def ct1011 : sxCt := (28, 0, (3, [(1, .ofNat 0, .ofNat 1), (2, .ofNat 0, .ofNat 51)], [], [(0, .inl 3), (1, .inr (false, (1, .ofNat 0))), (2, .inr (false, (2, .ofNat 0)))], [], [], [], []), [], [
  (4, [(3, .negSucc 9223372036854775807, .ofNat 9223372036854775807)], [], [], [.inr (true, (3, .ofNat 0))], [], [], [])], [], 0, 0)
def cu1011 : List sxCu := [
  (10, (5, [(1, .ofNat 0, .ofNat 1), (2, .ofNat 0, .ofNat 51), (3, .negSucc 9223372036854775807, .ofNat 9223372036854775807), (4, .ofNat 0, .ofNat 12)], [], [(0, .inl 3), (1, .inr (false, (1, .ofNat 0))), (2, .inr (false, (2, .ofNat 0))), (3, .inr (true, (3, .ofNat 0))), (5, .inr (false, (4, .ofNat 0)))], [], [(3, (0, .ofNat 11), .inl 8)], [], []), ((0, 4, .ofNat 12), (0, 0, .ofNat 0), (0, 0, .ofNat 0)), 0, 0)]
set_option maxRecDepth 1000000 in
theorem cv1011 {gh : sxGh} (hg : sxGd sxKw gh) : sxCtV sxKw gh ct1011 := sxMeB_ok (cts := []) (cuts := cu1011) (sp := []) 90 (by decide +kernel) hg (by decide) (by decide) (fun _ h => absurd h List.not_mem_nil)
/-- LotBeliefsModel.togetherIn -/
def ct1012 : sxCt := (274, 0, (3, [(1, .ofNat 0, .ofNat 1), (2, .ofNat 0, .ofNat 51)], [], [(0, .inl 78), (1, .inr (false, (1, .ofNat 0))), (2, .inr (false, (2, .ofNat 0)))], [], [], [], []), [], [
  (4, [(3, .negSucc 9223372036854775807, .ofNat 9223372036854775807)], [], [], [.inr (true, (3, .ofNat 0))], [], [], [])], [], 0, 0)
def cu1012 : List sxCu := [
  (10, (5, [(1, .ofNat 0, .ofNat 1), (2, .ofNat 0, .ofNat 51), (3, .negSucc 9223372036854775807, .ofNat 9223372036854775807), (4, .ofNat 0, .ofNat 12)], [], [(0, .inl 78), (1, .inr (false, (1, .ofNat 0))), (2, .inr (false, (2, .ofNat 0))), (3, .inr (true, (3, .ofNat 0))), (5, .inr (false, (4, .ofNat 0)))], [], [(78, (0, .ofNat 19), .inl 89)], [], []), ((0, 4, .ofNat 12), (0, 0, .ofNat 0), (0, 0, .ofNat 0)), 0, 0)]
set_option maxRecDepth 1000000 in
theorem cv1012 {gh : sxGh} (hg : sxGd sxKw gh) : sxCtV sxKw gh ct1012 := sxMeB_ok (cts := []) (cuts := cu1012) (sp := []) 97 (by decide +kernel) hg (by decide) (by decide) (fun _ h => absurd h List.not_mem_nil)
/-- LotBeliefsModel.fits -/
def ct1013 : sxCt := (295, 3, (3, [(1, .ofNat 0, .ofNat 1), (2, .ofNat 0, .ofNat 51)], [], [(0, .inl 78), (1, .inr (false, (1, .ofNat 0))), (2, .inr (false, (2, .ofNat 0)))], [], [(82, (0, .ofNat 1), .inr (false, (0, .ofNat 1)))], [], []), [(78, 1)], [
  (3, [], [], [], [.inr (false, (0, .ofNat 1))], [(78, (0, .ofNat 0), .inr (false, (0, .ofNat 0))), (82, (0, .ofNat 1), .inr (false, (0, .ofNat 1)))], [], []), 
  (3, [], [], [], [.inr (false, (0, .ofNat 0))], [(78, (0, .ofNat 0), .inr (false, (0, .ofNat 0))), (82, (0, .ofNat 1), .inr (false, (0, .ofNat 1)))], [], [])], [], 0, 0)
def cu1013 : List sxCu := []
set_option maxRecDepth 1000000 in
theorem cv1013 {gh : sxGh} (hg : sxGd sxKw gh) : sxCtV sxKw gh ct1013 := sxMeB_ok (cts := [ct1012]) (cuts := cu1013) (sp := []) 141 (by decide +kernel) hg (by decide) (by decide) (List.forall_mem_cons.mpr ⟨cv1012 hg, (fun _ h => absurd h List.not_mem_nil)⟩)
/-- LotBeliefsModel.fits -/
def ct1014 : sxCt := (295, 3, (3, [(1, .ofNat 0, .ofNat 0), (2, .ofNat 0, .ofNat 51)], [], [(0, .inl 78), (1, .inr (false, (1, .ofNat 0))), (2, .inr (false, (2, .ofNat 0)))], [], [(82, (0, .ofNat 1), .inr (false, (0, .ofNat 0)))], [], []), [(78, 1)], [
  (3, [], [], [], [.inr (false, (0, .ofNat 1))], [(78, (0, .ofNat 0), .inr (false, (0, .ofNat 0))), (82, (0, .ofNat 1), .inr (false, (0, .ofNat 0)))], [], []), 
  (3, [], [], [], [.inr (false, (0, .ofNat 0))], [(78, (0, .ofNat 0), .inr (false, (0, .ofNat 0))), (82, (0, .ofNat 1), .inr (false, (0, .ofNat 0)))], [], [])], [], 0, 0)
def cu1014 : List sxCu := []
set_option maxRecDepth 1000000 in
theorem cv1014 {gh : sxGh} (hg : sxGd sxKw gh) : sxCtV sxKw gh ct1014 := sxMeB_ok (cts := [ct1012]) (cuts := cu1014) (sp := []) 141 (by decide +kernel) hg (by decide) (by decide) (List.forall_mem_cons.mpr ⟨cv1012 hg, (fun _ h => absurd h List.not_mem_nil)⟩)
/-- LotBeliefs.Subsets.fill -/
def ct1015 : sxCt := (58, 0, (2, [(1, .ofNat 0, .ofNat 51)], [], [(0, .inl 45), (1, .inl 3), (2, .inr (false, (1, .ofNat 0)))], [], [], [], []), [(45, 2), (45, 3), (46, 0)], [
  (5, [(2, .ofNat 0, .ofNat 12), (3, .ofNat 1, .ofNat 4096), (4, .negSucc 9223372036854775807, .ofNat 9223372036854775807)], [], [], [], [(45, (0, .ofNat 1), .inr (false, (2, .ofNat 0))), (45, (0, .ofNat 2), .inr (false, (3, .ofNat 0))), (46, (0, .ofNat 0), .inr (true, (4, .ofNat 0)))], [], [])], [], 0, 0)
def cu1015 : List sxCu := [
  (40, (6, [(1, .ofNat 0, .ofNat 51), (2, .ofNat 0, .ofNat 12), (3, .ofNat 0, .ofNat 12), (4, .ofNat 1, .ofNat 4096), (5, .negSucc 9223372036854775807, .ofNat 9223372036854775807)], [], [(0, .inl 45), (1, .inl 3), (2, .inr (false, (1, .ofNat 0))), (3, .inr (false, (2, .ofNat 0)))], [], [(3, (0, .ofNat 2), .inr (false, (3, .ofNat 0))), (3, (0, .ofNat 11), .inl 8), (45, (0, .ofNat 0), .inl 46), (45, (0, .ofNat 1), .inr (false, (3, .ofNat 0))), (45, (0, .ofNat 2), .inr (false, (4, .ofNat 0))), (46, (0, .ofNat 0), .inr (true, (5, .ofNat 0)))], [], []), ((0, 2, .ofNat 12), (0, 0, .ofNat 4096), (0, 0, .ofNat 0)), 0, 0), 
  (56, (8, [(1, .ofNat 0, .ofNat 51), (2, .ofNat 0, .ofNat 11), (3, .ofNat 1, .ofNat 4095), (4, .ofNat 0, .ofNat 4095), (5, .ofNat 1, .ofNat 12), (6, .ofNat 1, .ofNat 4096), (7, .negSucc 9223372036854775807, .ofNat 9223372036854775807)], [(2, 5, .negSucc 0)], [(0, .inl 45), (1, .inl 3), (2, .inr (false, (1, .ofNat 0))), (3, .inr (false, (2, .ofNat 0))), (4, .inr (false, (3, .ofNat 0))), (5, .inr (false, (4, .ofNat 0)))], [], [(3, (0, .ofNat 2), .inr (false, (5, .ofNat 0))), (3, (0, .ofNat 11), .inl 8), (45, (0, .ofNat 0), .inl 46), (45, (0, .ofNat 1), .inr (false, (5, .ofNat 0))), (45, (0, .ofNat 2), .inr (false, (6, .ofNat 0))), (46, (0, .ofNat 0), .inr (true, (7, .ofNat 0)))], [], []), ((0, 2, .ofNat 12), (0, 4, .ofNat 4095), (0, 0, .ofNat 0)), 0, 0)]
set_option maxRecDepth 1000000 in
theorem cv1015 {gh : sxGh} (hg : sxGd sxKw gh) : sxCtV sxKw gh ct1015 := sxMeB_ok (cts := []) (cuts := cu1015) (sp := []) 126 (by decide +kernel) hg (by decide) (by decide) (fun _ h => absurd h List.not_mem_nil)
/-- LotBeliefs.Subsets.core -/
def ct1020 : sxCt := (61, 1, (1, [], [], [(0, .inl 45)], [], [], [], []), [], [
  (2, [(1, .negSucc 0, .ofNat 4095)], [], [], [.inr (false, (1, .ofNat 0))], [], [], [])], [], 0, 0)
def cu1020 : List sxCu := [
  (7, (4, [(1, .negSucc 0, .ofNat 4095), (2, .ofNat 0, .ofNat 63), (3, .ofNat 0, .ofNat 4096)], [(1, 3, .negSucc 0)], [(0, .inl 45), (1, .inr (false, (1, .ofNat 0))), (2, .inr (false, (2, .ofNat 0))), (3, .inr (false, (3, .ofNat 0)))], [], [], [], []), ((0, 3, .ofNat 4096), (0, 0, .ofNat 0), (0, 0, .ofNat 0)), 0, 0)]
set_option maxRecDepth 1000000 in
theorem cv1020 {gh : sxGh} (hg : sxGd sxKw gh) : sxCtV sxKw gh ct1020 := sxMeB_ok (cts := [ct462]) (cuts := cu1020) (sp := []) 100 (by decide +kernel) hg (by decide) (by decide) (List.forall_mem_cons.mpr ⟨cv462 hg, (fun _ h => absurd h List.not_mem_nil)⟩)
/-- LotBeliefsModel.ones -/
def ct1059 : sxCt := (224, 0, (2, [(1, .ofNat 0, .ofNat 39)], [], [(0, .inr (true, (1, .ofNat 0)))], [], [], [], []), [], [
  (3, [(2, .negSucc 2147483647, .ofNat 2147483647)], [], [], [.inr (false, (2, .ofNat 0))], [], [], [])], [], 0, 0)
def cu1059 : List sxCu := [
  (4, (4, [(1, .ofNat 0, .ofNat 39), (2, .negSucc 2147483647, .ofNat 2147483647), (3, .ofNat 0, .ofNat 64)], [], [(0, .inr (true, (1, .ofNat 0))), (2, .inr (false, (2, .ofNat 0))), (3, .inr (false, (3, .ofNat 0)))], [], [], [], []), ((0, 3, .ofNat 64), (0, 0, .ofNat 0), (0, 0, .ofNat 0)), 0, 0)]
set_option maxRecDepth 1000000 in
theorem cv1059 {gh : sxGh} (hg : sxGd sxKw gh) : sxCtV sxKw gh ct1059 := sxMeB_ok (cts := []) (cuts := cu1059) (sp := []) 80 (by decide +kernel) hg (by decide) (by decide) (fun _ h => absurd h List.not_mem_nil)
/-- LotBeliefsModel.ones -/
def ct1075 : sxCt := (224, 0, (2, [(1, .ofNat 0, .ofNat 63)], [], [(0, .inr (true, (1, .ofNat 0)))], [], [], [], []), [], [
  (3, [(2, .negSucc 2147483647, .ofNat 2147483647)], [], [], [.inr (false, (2, .ofNat 0))], [], [], [])], [], 0, 0)
def cu1075 : List sxCu := [
  (4, (4, [(1, .ofNat 0, .ofNat 63), (2, .negSucc 2147483647, .ofNat 2147483647), (3, .ofNat 0, .ofNat 64)], [], [(0, .inr (true, (1, .ofNat 0))), (2, .inr (false, (2, .ofNat 0))), (3, .inr (false, (3, .ofNat 0)))], [], [], [], []), ((0, 3, .ofNat 64), (0, 0, .ofNat 0), (0, 0, .ofNat 0)), 0, 0)]
set_option maxRecDepth 1000000 in
theorem cv1075 {gh : sxGh} (hg : sxGd sxKw gh) : sxCtV sxKw gh ct1075 := sxMeB_ok (cts := []) (cuts := cu1075) (sp := []) 80 (by decide +kernel) hg (by decide) (by decide) (fun _ h => absurd h List.not_mem_nil)
/-- LotBeliefsModel.isWhole -/
def ct1089 : sxCt := (299, 1, (3, [(1, .ofNat 0, .ofNat 4095), (2, .ofNat 0, .ofNat 51)], [], [(0, .inl 78), (1, .inr (false, (1, .ofNat 0))), (2, .inr (false, (2, .ofNat 0)))], [], [], [], []), [], [
  (3, [], [], [], [.inr (false, (0, .ofNat 0))], [], [], []), 
  (3, [], [], [], [.inr (false, (0, .ofNat 1))], [], [], [])], [], 0, 0)
def cu1089 : List sxCu := [
  (15, (4, [(1, .ofNat 0, .ofNat 4095), (2, .ofNat 0, .ofNat 51), (3, .ofNat 0, .ofNat 12)], [], [(0, .inl 78), (1, .inr (false, (1, .ofNat 0))), (2, .inr (false, (2, .ofNat 0))), (3, .inr (false, (3, .ofNat 0)))], [], [], [], []), ((0, 3, .ofNat 12), (0, 0, .ofNat 0), (0, 0, .ofNat 0)), 0, 0)]
set_option maxRecDepth 1000000 in
theorem cv1089 {gh : sxGh} (hg : sxGd sxKw gh) : sxCtV sxKw gh ct1089 := sxMeB_ok (cts := [ct461]) (cuts := cu1089) (sp := []) 112 (by decide +kernel) hg (by decide) (by decide) (List.forall_mem_cons.mpr ⟨cv461 hg, (fun _ h => absurd h List.not_mem_nil)⟩)
/-- LotBeliefsModel.sets -/
def ct1090 : sxCt := (300, 2, (3, [(1, .ofNat 0, .ofNat 51), (2, .ofNat 0, .ofNat 3)], [], [(0, .inl 78), (1, .inr (false, (1, .ofNat 0))), (2, .inr (false, (2, .ofNat 0)))], [], [], [], []), [(78, 1)], [
  (4, [(3, .negSucc 0, .ofNat 4096)], [], [], [.inr (false, (3, .ofNat 0))], [(78, (0, .ofNat 0), .inr (false, (0, .ofNat 0)))], [], [])], [], 0, 0)
def cu1090 : List sxCu := [
  (51, (8, [(1, .ofNat 0, .ofNat 51), (2, .ofNat 0, .ofNat 3), (3, .ofNat 0, .ofNat 4096), (4, .negSucc 0, .ofNat 4095), (5, .ofNat 0, .ofNat 4096), (6, .negSucc 0, .ofNat 4095), (7, .ofNat 0, .ofNat 4096)], [(3, 7, .ofNat 0), (4, 7, .negSucc 0), (5, 3, .ofNat 0), (5, 7, .ofNat 0), (6, 7, .negSucc 0)], [(0, .inl 78), (1, .inr (false, (1, .ofNat 0))), (2, .inr (false, (2, .ofNat 0))), (3, .inr (false, (3, .ofNat 0))), (4, .inr (false, (4, .ofNat 0))), (5, .inr (false, (5, .ofNat 0))), (6, .inr (false, (6, .ofNat 0))), (7, .inr (false, (7, .ofNat 0)))], [], [(78, (0, .ofNat 0), .inr (false, (0, .ofNat 0)))], [], []), ((0, 7, .ofNat 4096), (0, 0, .ofNat 0), (0, 0, .ofNat 0)), 0, 0)]
set_option maxRecDepth 1000000 in
theorem cv1090 {gh : sxGh} (hg : sxGd sxKw gh) : sxCtV sxKw gh ct1090 := sxMeB_ok (cts := [ct463, ct461, ct1089]) (cuts := cu1090) (sp := []) 426 (by decide +kernel) hg (by decide) (by decide) (List.forall_mem_cons.mpr ⟨cv463 hg, (List.forall_mem_cons.mpr ⟨cv461 hg, (List.forall_mem_cons.mpr ⟨cv1089 hg, (fun _ h => absurd h List.not_mem_nil)⟩)⟩)⟩)
/-- LotBeliefs.Subsets.isWhole -/
def ct1116 : sxCt := (65, 0, (2, [(1, .ofNat 0, .ofNat 4095)], [], [(0, .inl 45), (1, .inr (false, (1, .ofNat 0)))], [], [], [], []), [], [
  (2, [], [], [], [.inr (false, (0, .ofNat 0))], [], [], []), 
  (2, [], [], [], [.inr (false, (0, .ofNat 1))], [], [], [])], [], 0, 0)
def cu1116 : List sxCu := [
  (15, (3, [(1, .ofNat 0, .ofNat 4095), (2, .ofNat 0, .ofNat 12)], [], [(0, .inl 45), (1, .inr (false, (1, .ofNat 0))), (2, .inr (false, (2, .ofNat 0)))], [], [(45, (0, .ofNat 0), .inl 46)], [], []), ((0, 2, .ofNat 12), (0, 0, .ofNat 0), (0, 0, .ofNat 0)), 0, 0)]
set_option maxRecDepth 1000000 in
theorem cv1116 {gh : sxGh} (hg : sxGd sxKw gh) : sxCtV sxKw gh ct1116 := sxMeB_ok (cts := []) (cuts := cu1116) (sp := []) 112 (by decide +kernel) hg (by decide) (by decide) (fun _ h => absurd h List.not_mem_nil)
/-- LotBeliefs.Subsets.wholes -/
def ct1117 : sxCt := (63, 1, (1, [], [], [(0, .inl 45)], [], [], [], []), [], [
  (2, [(1, .ofNat 0, .ofNat 4096)], [], [], [.inr (false, (1, .ofNat 0))], [], [], [])], [], 0, 0)
def cu1117 : List sxCu := [
  (4, (3, [(1, .ofNat 0, .ofNat 4096), (2, .ofNat 0, .ofNat 4096)], [(1, 2, .ofNat 0)], [(0, .inl 45), (1, .inr (false, (1, .ofNat 0))), (2, .inr (false, (2, .ofNat 0)))], [], [], [], []), ((0, 2, .ofNat 4096), (0, 0, .ofNat 0), (0, 0, .ofNat 0)), 0, 0)]
set_option maxRecDepth 1000000 in
theorem cv1117 {gh : sxGh} (hg : sxGd sxKw gh) : sxCtV sxKw gh ct1117 := sxMeB_ok (cts := [ct1116]) (cuts := cu1117) (sp := []) 81 (by decide +kernel) hg (by decide) (by decide) (List.forall_mem_cons.mpr ⟨cv1116 hg, (fun _ h => absurd h List.not_mem_nil)⟩)
/-- LotBeliefs.Subsets.greatest -/
def ct1118 : sxCt := (60, 1, (1, [], [], [(0, .inl 45)], [], [], [], []), [], [
  (2, [(1, .negSucc 0, .ofNat 4095)], [], [], [.inr (false, (1, .ofNat 0))], [], [], [])], [], 0, 0)
def cu1118 : List sxCu := [
  (6, (4, [(1, .negSucc 0, .ofNat 4095), (2, .negSucc 0, .ofNat 63), (3, .ofNat 0, .ofNat 4096)], [(1, 3, .negSucc 0)], [(0, .inl 45), (1, .inr (false, (1, .ofNat 0))), (2, .inr (false, (2, .ofNat 0))), (3, .inr (false, (3, .ofNat 0)))], [], [], [], []), ((0, 3, .ofNat 4096), (0, 0, .ofNat 0), (0, 0, .ofNat 0)), 0, 0)]
set_option maxRecDepth 1000000 in
theorem cv1118 {gh : sxGh} (hg : sxGd sxKw gh) : sxCtV sxKw gh ct1118 := sxMeB_ok (cts := [ct462]) (cuts := cu1118) (sp := []) 113 (by decide +kernel) hg (by decide) (by decide) (List.forall_mem_cons.mpr ⟨cv462 hg, (fun _ h => absurd h List.not_mem_nil)⟩)
/-- LotBeliefs.Subsets.fitting -/
def ct1119 : sxCt := (59, 0, (1, [], [], [(0, .inl 45)], [], [], [], []), [], [
  (2, [(1, .ofNat 0, .ofNat 4096)], [], [], [.inr (false, (1, .ofNat 0))], [], [], [])], [], 0, 0)
def cu1119 : List sxCu := [
  (4, (3, [(1, .ofNat 0, .ofNat 4096), (2, .ofNat 0, .ofNat 4096)], [(1, 2, .ofNat 0)], [(0, .inl 45), (1, .inr (false, (1, .ofNat 0))), (2, .inr (false, (2, .ofNat 0)))], [], [], [], []), ((0, 2, .ofNat 4096), (0, 0, .ofNat 0), (0, 0, .ofNat 0)), 0, 0)]
set_option maxRecDepth 1000000 in
theorem cv1119 {gh : sxGh} (hg : sxGd sxKw gh) : sxCtV sxKw gh ct1119 := sxMeB_ok (cts := []) (cuts := cu1119) (sp := []) 87 (by decide +kernel) hg (by decide) (by decide) (fun _ h => absurd h List.not_mem_nil)
/-- LotBeliefs.Subsets.wholeAt -/
def ct1120 : sxCt := (64, 1, (2, [(1, .negSucc 2147483647, .ofNat 2147483647)], [], [(0, .inl 45), (1, .inr (false, (1, .ofNat 0)))], [], [], [], []), [], [
  (3, [(2, .negSucc 0, .ofNat 4095)], [], [], [.inr (false, (2, .ofNat 0))], [], [], [])], [], 0, 0)
def cu1120 : List sxCu := [
  (4, (4, [(1, .negSucc 2147483647, .ofNat 2147483647), (2, .ofNat 0, .ofNat 4096), (3, .ofNat 0, .ofNat 4096)], [(2, 3, .ofNat 0)], [(0, .inl 45), (1, .inr (false, (1, .ofNat 0))), (2, .inr (false, (2, .ofNat 0))), (3, .inr (false, (3, .ofNat 0)))], [], [], [], []), ((0, 3, .ofNat 4096), (0, 0, .ofNat 0), (0, 0, .ofNat 0)), 0, 0)]
set_option maxRecDepth 1000000 in
theorem cv1120 {gh : sxGh} (hg : sxGd sxKw gh) : sxCtV sxKw gh ct1120 := sxMeB_ok (cts := [ct1116]) (cuts := cu1120) (sp := []) 86 (by decide +kernel) hg (by decide) (by decide) (List.forall_mem_cons.mpr ⟨cv1116 hg, (fun _ h => absurd h List.not_mem_nil)⟩)
/-- LotBeliefsModel.whole -/
def ct1121 : sxCt := (301, 2, (3, [(1, .ofNat 0, .ofNat 51), (2, .negSucc 2147483647, .ofNat 2147483647)], [], [(0, .inl 78), (1, .inr (false, (1, .ofNat 0))), (2, .inr (false, (2, .ofNat 0)))], [], [], [], []), [(78, 1)], [
  (4, [(3, .negSucc 0, .ofNat 4095)], [], [], [.inr (false, (3, .ofNat 0))], [(78, (0, .ofNat 0), .inr (false, (0, .ofNat 0)))], [], [])], [], 0, 0)
def cu1121 : List sxCu := [
  (33, (5, [(1, .ofNat 0, .ofNat 51), (2, .negSucc 2147483647, .ofNat 2147483647), (3, .ofNat 0, .ofNat 4096), (4, .ofNat 0, .ofNat 4096)], [(3, 4, .ofNat 0)], [(0, .inl 78), (1, .inr (false, (1, .ofNat 0))), (2, .inr (false, (2, .ofNat 0))), (3, .inr (false, (3, .ofNat 0))), (4, .inr (false, (4, .ofNat 0)))], [], [(78, (0, .ofNat 0), .inr (false, (0, .ofNat 0)))], [], []), ((0, 4, .ofNat 4096), (0, 0, .ofNat 0), (0, 0, .ofNat 0)), 0, 0)]
set_option maxRecDepth 1000000 in
theorem cv1121 {gh : sxGh} (hg : sxGd sxKw gh) : sxCtV sxKw gh ct1121 := sxMeB_ok (cts := [ct1089]) (cuts := cu1121) (sp := []) 125 (by decide +kernel) hg (by decide) (by decide) (List.forall_mem_cons.mpr ⟨cv1089 hg, (fun _ h => absurd h List.not_mem_nil)⟩)
/-- LotBeliefs.Subsets.proving -/
def ct1122 : sxCt := (62, 1, (2, [(1, .negSucc 9223372036854775807, .ofNat 9223372036854775807)], [], [(0, .inl 45), (1, .inr (true, (1, .ofNat 0)))], [], [], [], []), [], [
  (3, [(2, .negSucc 0, .ofNat 4095)], [], [], [.inr (false, (2, .ofNat 0))], [], [], [])], [], 0, 0)
def cu1122 : List sxCu := [
  (9, (5, [(1, .negSucc 9223372036854775807, .ofNat 9223372036854775807), (2, .negSucc 0, .ofNat 4095), (3, .ofNat 0, .ofNat 63), (4, .ofNat 0, .ofNat 4096)], [(2, 4, .negSucc 0)], [(0, .inl 45), (1, .inr (true, (1, .ofNat 0))), (3, .inr (false, (2, .ofNat 0))), (4, .inr (false, (3, .ofNat 0))), (5, .inr (false, (4, .ofNat 0)))], [], [], [], []), ((0, 4, .ofNat 4096), (0, 0, .ofNat 0), (0, 0, .ofNat 0)), 0, 0)]
set_option maxRecDepth 1000000 in
theorem cv1122 {gh : sxGh} (hg : sxGd sxKw gh) : sxCtV sxKw gh ct1122 := sxMeB_ok (cts := [ct462]) (cuts := cu1122) (sp := []) 170 (by decide +kernel) hg (by decide) (by decide) (List.forall_mem_cons.mpr ⟨cv462 hg, (fun _ h => absurd h List.not_mem_nil)⟩)
/-- LotBeliefsModel.proof -/
def ct1123 : sxCt := (302, 2, (2, [(1, .ofNat 0, .ofNat 51)], [], [(0, .inl 78), (1, .inr (false, (1, .ofNat 0)))], [], [], [], []), [(78, 1)], [
  (3, [(2, .negSucc 0, .ofNat 4095)], [], [], [.inr (false, (2, .ofNat 0))], [(78, (0, .ofNat 0), .inr (false, (0, .ofNat 0)))], [], [])], [], 0, 0)
def cu1123 : List sxCu := [
  (32, (4, [(1, .ofNat 0, .ofNat 51), (2, .negSucc 0, .ofNat 4095), (3, .ofNat 0, .ofNat 4096)], [(2, 3, .negSucc 0)], [(0, .inl 78), (1, .inr (false, (1, .ofNat 0))), (2, .inr (false, (2, .ofNat 0))), (3, .inr (false, (3, .ofNat 0)))], [], [(78, (0, .ofNat 0), .inr (false, (0, .ofNat 0)))], [], []), ((0, 3, .ofNat 4096), (0, 0, .ofNat 0), (0, 0, .ofNat 0)), 0, 0)]
set_option maxRecDepth 1000000 in
theorem cv1123 {gh : sxGh} (hg : sxGd sxKw gh) : sxCtV sxKw gh ct1123 := sxMeB_ok (cts := [ct463, ct461]) (cuts := cu1123) (sp := []) 194 (by decide +kernel) hg (by decide) (by decide) (List.forall_mem_cons.mpr ⟨cv463 hg, (List.forall_mem_cons.mpr ⟨cv461 hg, (fun _ h => absurd h List.not_mem_nil)⟩)⟩)
/-- LotBeliefs.split -/
def ct1124 : sxCt := (141, 2, (3, [(1, .ofNat 0, .ofNat 51), (2, .ofNat 0, .ofNat 1)], [], [(0, .inl 0), (1, .inr (false, (1, .ofNat 0))), (2, .inr (false, (2, .ofNat 0)))], [], [], [], []), [], [
  (4, [(3, .ofNat 0, .ofNat 127)], [], [], [.inr (false, (3, .ofNat 0))], [], [], [])], [], 0, 0)
def cu1124 : List sxCu := [
  (27, (6, [(1, .ofNat 0, .ofNat 51), (2, .ofNat 0, .ofNat 1), (3, .ofNat 0, .ofNat 5), (4, .ofNat 0, .ofNat 127), (5, .ofNat 1, .ofNat 6)], [(3, 5, .negSucc 0)], [(0, .inl 0), (1, .inr (false, (1, .ofNat 0))), (2, .inr (false, (2, .ofNat 0))), (3, .inr (false, (3, .ofNat 0))), (4, .inr (false, (4, .ofNat 0))), (5, .inr (false, (5, .ofNat 0)))], [], [], [], []), ((0, 5, .ofNat 6), (0, 0, .ofNat 0), (0, 0, .ofNat 0)), 0, 0)]
set_option maxRecDepth 1000000 in
theorem cv1124 {gh : sxGh} (hg : sxGd sxKw gh) : sxCtV sxKw gh ct1124 := sxMeB_ok (cts := [ct95]) (cuts := cu1124) (sp := []) 681 (by decide +kernel) hg (by decide) (by decide) (List.forall_mem_cons.mpr ⟨cv95 hg, (fun _ h => absurd h List.not_mem_nil)⟩)
/-- LotBeliefsModel.atomOf -/
def ct1130 : sxCt := (215, 0, (3, [(1, .ofNat 0, .ofNat 5), (2, .ofNat 0, .ofNat 6)], [], [(0, .inr (false, (1, .ofNat 0))), (1, .inr (false, (2, .ofNat 0)))], [], [], [], []), [], [
  (4, [(3, .negSucc 9223372036854775807, .ofNat 9223372036854775807)], [], [], [.inr (true, (3, .ofNat 0))], [], [], [])], [], 0, 0)
def cu1130 : List sxCu := []
set_option maxRecDepth 1000000 in
theorem cv1130 {gh : sxGh} (hg : sxGd sxKw gh) : sxCtV sxKw gh ct1130 := sxMeB_ok (cts := []) (cuts := cu1130) (sp := []) 1349 (by decide +kernel) hg (by decide) (by decide) (fun _ h => absurd h List.not_mem_nil)
/-- LotBeliefsModel.split -/
def ct1131 : sxCt := (303, 2, (3, [(1, .ofNat 0, .ofNat 51), (2, .ofNat 0, .ofNat 1)], [], [(0, .inl 78), (1, .inr (false, (1, .ofNat 0))), (2, .inr (false, (2, .ofNat 0)))], [], [], [], []), [(78, 1)], [
  (4, [(3, .negSucc 2147483647, .ofNat 2147483647)], [], [], [.inr (false, (3, .ofNat 0))], [(78, (0, .ofNat 0), .inr (false, (0, .ofNat 0)))], [], [])], [], 0, 0)
def cu1131 : List sxCu := [
  (45, (6, [(1, .ofNat 0, .ofNat 51), (2, .ofNat 0, .ofNat 1), (3, .negSucc 0, .ofNat 5), (4, .negSucc 2147483647, .ofNat 2147483647), (5, .ofNat 0, .ofNat 6)], [(3, 5, .negSucc 0)], [(0, .inl 78), (1, .inr (false, (1, .ofNat 0))), (2, .inr (false, (2, .ofNat 0))), (3, .inr (false, (3, .ofNat 0))), (4, .inr (false, (4, .ofNat 0))), (5, .inr (false, (5, .ofNat 0)))], [], [(78, (0, .ofNat 0), .inr (false, (0, .ofNat 0)))], [], []), ((0, 5, .ofNat 6), (0, 0, .ofNat 0), (0, 0, .ofNat 0)), 0, 0)]
set_option maxRecDepth 1000000 in
theorem cv1131 {gh : sxGh} (hg : sxGd sxKw gh) : sxCtV sxKw gh ct1131 := sxMeB_ok (cts := [ct1130, ct0]) (cuts := cu1131) (sp := []) 200 (by decide +kernel) hg (by decide) (by decide) (List.forall_mem_cons.mpr ⟨cv1130 hg, (List.forall_mem_cons.mpr ⟨cv0 hg, (fun _ h => absurd h List.not_mem_nil)⟩)⟩)
/-- LotBeliefs.Jar.slipsSoIn -/
def ct1168 : sxCt := (26, 1, (2, [(1, .ofNat 0, .ofNat 63)], [], [(0, .inl 11), (1, .inr (false, (1, .ofNat 0)))], [], [], [], []), [], [
  (3, [(2, .ofNat 0, .ofNat 4095)], [], [], [.inr (false, (2, .ofNat 0))], [], [], [])], [], 0, 0)
def cu1168 : List sxCu := [
  (4, (4, [(1, .ofNat 0, .ofNat 63), (2, .ofNat 0, .ofNat 4095), (3, .ofNat 0, .ofNat 12)], [], [(0, .inl 11), (1, .inr (false, (1, .ofNat 0))), (2, .inr (false, (2, .ofNat 0))), (3, .inr (false, (3, .ofNat 0)))], [], [], [], []), ((0, 3, .ofNat 12), (0, 0, .ofNat 0), (0, 0, .ofNat 0)), 0, 0)]
set_option maxRecDepth 1000000 in
theorem cv1168 {gh : sxGh} (hg : sxGd sxKw gh) : sxCtV sxKw gh ct1168 := sxMeB_ok (cts := []) (cuts := cu1168) (sp := []) 103 (by decide +kernel) hg (by decide) (by decide) (fun _ h => absurd h List.not_mem_nil)
/-- LotBeliefs.likely -/
def ct1169 : sxCt := (142, 2, (2, [(1, .ofNat 0, .ofNat 51)], [], [(0, .inl 0), (1, .inr (false, (1, .ofNat 0)))], [], [], [], []), [], [
  (3, [(2, .negSucc 0, .ofNat 63)], [], [], [.inr (false, (2, .ofNat 0))], [], [], [])], [], 0, 0)
def cu1169 : List sxCu := [
  (12, (5, [(1, .ofNat 0, .ofNat 51), (2, .negSucc 0, .ofNat 63), (3, .negSucc 0, .ofNat 63), (4, .ofNat 0, .ofNat 64)], [(2, 4, .negSucc 0), (3, 2, .ofNat 63), (3, 4, .ofNat 62)], [(0, .inl 0), (1, .inr (false, (1, .ofNat 0))), (2, .inr (false, (2, .ofNat 0))), (3, .inr (false, (3, .ofNat 0))), (4, .inr (false, (4, .ofNat 0)))], [], [], [], []), ((0, 4, .ofNat 64), (0, 0, .ofNat 0), (0, 0, .ofNat 0)), 0, 0)]
set_option maxRecDepth 1000000 in
theorem cv1169 {gh : sxGh} (hg : sxGd sxKw gh) : sxCtV sxKw gh ct1169 := sxMeB_ok (cts := [ct1168, ct324, ct462]) (cuts := cu1169) (sp := []) 162 (by decide +kernel) hg (by decide) (by decide) (List.forall_mem_cons.mpr ⟨cv1168 hg, (List.forall_mem_cons.mpr ⟨cv324 hg, (List.forall_mem_cons.mpr ⟨cv462 hg, (fun _ h => absurd h List.not_mem_nil)⟩)⟩)⟩)
/-- LotBeliefsModel.likely -/
def ct1170 : sxCt := (304, 2, (2, [(1, .ofNat 0, .ofNat 51)], [], [(0, .inl 78), (1, .inr (false, (1, .ofNat 0)))], [], [], [], []), [(78, 1)], [
  (3, [(2, .negSucc 0, .ofNat 63)], [], [], [.inr (false, (2, .ofNat 0))], [(78, (0, .ofNat 0), .inr (false, (0, .ofNat 0)))], [], [])], [], 0, 0)
def cu1170 : List sxCu := [
  (35, (5, [(1, .ofNat 0, .ofNat 51), (2, .negSucc 0, .ofNat 63), (3, .negSucc 0, .ofNat 2147483647), (4, .ofNat 0, .ofNat 64)], [(2, 4, .negSucc 0)], [(0, .inl 78), (1, .inr (false, (1, .ofNat 0))), (2, .inr (false, (2, .ofNat 0))), (3, .inr (false, (3, .ofNat 0))), (4, .inr (false, (4, .ofNat 0)))], [], [(78, (0, .ofNat 0), .inr (false, (0, .ofNat 0)))], [], []), ((0, 4, .ofNat 64), (0, 0, .ofNat 13), (0, 0, .ofNat 0)), 0, 0), 
  (73, (8, [(1, .ofNat 0, .ofNat 51), (2, .negSucc 0, .ofNat 62), (3, .negSucc 0, .ofNat 2147483647), (4, .ofNat 0, .ofNat 63), (5, .negSucc 2147483647, .ofNat 2147483647), (6, .ofNat 0, .ofNat 12), (7, .ofNat 0, .ofNat 6)], [(2, 4, .negSucc 0)], [(0, .inl 78), (1, .inr (false, (1, .ofNat 0))), (2, .inr (false, (2, .ofNat 0))), (3, .inr (false, (3, .ofNat 0))), (4, .inr (false, (4, .ofNat 0))), (5, .inr (false, (5, .ofNat 0))), (6, .inr (false, (6, .ofNat 0)))], [], [(78, (0, .ofNat 0), .inr (false, (0, .ofNat 0))), (78, (0, .ofNat 12), .inl 82), (78, (0, .ofNat 19), .inl 89), (82, (0, .ofNat 0), .inr (false, (7, .ofNat 0)))], [], []), ((0, 4, .ofNat 64), (0, 6, .ofNat 12), (0, 0, .ofNat 0)), 0, 0)]
set_option maxRecDepth 1000000 in
theorem cv1170 {gh : sxGh} (hg : sxGd sxKw gh) : sxCtV sxKw gh ct1170 := sxMeB_ok (cts := []) (cuts := cu1170) (sp := []) 160 (by decide +kernel) hg (by decide) (by decide) (fun _ h => absurd h List.not_mem_nil)
/-- LotBeliefs.copyOrder -/
def ct1174 : sxCt := (183, 0, (2, [(1, .ofNat 0, .ofNat 5)], [], [(0, .inl 0), (1, .inr (false, (1, .ofNat 0)))], [], [], [], []), [(31, 0)], [
  (2, [], [], [], [], [], [], [])], [], 0, 0)
def cu1174 : List sxCu := [
  (2, (3, [(1, .ofNat 0, .ofNat 5), (2, .ofNat 0, .ofNat 12)], [], [(0, .inl 0), (1, .inr (false, (1, .ofNat 0))), (2, .inr (false, (2, .ofNat 0)))], [], [], [], []), ((0, 2, .ofNat 12), (0, 0, .ofNat 0), (0, 0, .ofNat 0)), 0, 0)]
set_option maxRecDepth 1000000 in
theorem cv1174 {gh : sxGh} (hg : sxGd sxKw gh) : sxCtV sxKw gh ct1174 := sxMeB_ok (cts := []) (cuts := cu1174) (sp := []) 111 (by decide +kernel) hg (by decide) (by decide) (fun _ h => absurd h List.not_mem_nil)
/-- LotBeliefs.laySalts -/
def ct1175 : sxCt := (188, 1, (2, [(1, .ofNat 0, .ofNat 1)], [], [(0, .inl 0), (1, .inr (false, (1, .ofNat 0)))], [], [], [], []), [(31, 0)], [
  (3, [(2, .ofNat 0, .ofNat 17)], [], [], [.inr (false, (2, .ofNat 0))], [], [], [])], [], 0, 0)
def cu1175 : List sxCu := [
  (4, (4, [(1, .ofNat 0, .ofNat 1), (2, .ofNat 0, .ofNat 5), (3, .ofNat 0, .ofNat 5)], [(2, 3, .ofNat 0)], [(0, .inl 0), (1, .inr (false, (1, .ofNat 0))), (2, .inr (false, (2, .ofNat 0))), (3, .inr (false, (3, .ofNat 0)))], [], [], [], []), ((0, 3, .ofNat 5), (0, 0, .ofNat 0), (0, 0, .ofNat 0)), 0, 0)]
set_option maxRecDepth 1000000 in
theorem cv1175 {gh : sxGh} (hg : sxGd sxKw gh) : sxCtV sxKw gh ct1175 := sxMeB_ok (cts := [ct1174]) (cuts := cu1175) (sp := []) 127 (by decide +kernel) hg (by decide) (by decide) (List.forall_mem_cons.mpr ⟨cv1174 hg, (fun _ h => absurd h List.not_mem_nil)⟩)
/-- LotBeliefs.Course.bury -/
def ct1180 : sxCt := (5, 1, (2, [(1, .ofNat 0, .ofNat 16)], [], [(0, .inl 32), (1, .inr (false, (1, .ofNat 0)))], [], [], [], []), [(32, 11), (32, 12), (34, 0), (36, 0), (37, 0)], [
  (3, [(2, .negSucc 2147483647, .ofNat 2147483647)], [], [], [], [(32, (0, .ofNat 11), .inr (false, (2, .ofNat 0)))], [], [])], [], 0, 0)
def cu1180 : List sxCu := [
  (22, (5, [(1, .ofNat 0, .ofNat 16), (2, .ofNat 0, .ofNat 17), (3, .ofNat 0, .ofNat 17), (4, .negSucc 2147483647, .ofNat 2147483647)], [(2, 3, .ofNat 0)], [(0, .inl 32), (1, .inr (false, (1, .ofNat 0))), (2, .inr (false, (2, .ofNat 0))), (3, .inr (false, (3, .ofNat 0)))], [], [(32, (0, .ofNat 11), .inr (false, (4, .ofNat 0)))], [], []), ((0, 3, .ofNat 17), (0, 0, .ofNat 0), (0, 0, .ofNat 0)), 0, 0)]
set_option maxRecDepth 1000000 in
theorem cv1180 {gh : sxGh} (hg : sxGd sxKw gh) : sxCtV sxKw gh ct1180 := sxMeB_ok (cts := [ct333, ct334]) (cuts := cu1180) (sp := []) 185 (by decide +kernel) hg (by decide) (by decide) (List.forall_mem_cons.mpr ⟨cv333 hg, (List.forall_mem_cons.mpr ⟨cv334 hg, (fun _ h => absurd h List.not_mem_nil)⟩)⟩)
/-- LotBeliefs.Course.lives -/
def ct1181 : sxCt := (6, 0, (3, [(1, .ofNat 0, .ofNat 16), (2, .ofNat 0, .ofNat 16)], [], [(0, .inl 32), (1, .inr (false, (1, .ofNat 0))), (2, .inr (false, (2, .ofNat 0)))], [], [], [], []), [(33000036, 0)], [
  (3, [], [], [], [.inr (false, (0, .ofNat 0))], [], [], []), 
  (3, [], [], [], [.inr (false, (0, .ofNat 1))], [], [], [])], [], 0, 0)
def cu1181 : List sxCu := []
set_option maxRecDepth 1000000 in
theorem cv1181 {gh : sxGh} (hg : sxGd sxKw gh) : sxCtV sxKw gh ct1181 := sxMeB_ok (cts := []) (cuts := cu1181) (sp := []) 196 (by decide +kernel) hg (by decide) (by decide) (fun _ h => absurd h List.not_mem_nil)
/-- LotBeliefs.Course.play -/
def ct1182 : sxCt := (2, 4, (3, [(1, .ofNat 0, .ofNat 17), (2, .ofNat 0, .ofNat 1)], [], [(0, .inl 32), (1, .inl 31), (2, .inr (false, (1, .ofNat 0))), (3, .inr (false, (2, .ofNat 0)))], [], [], [], []), [(21, 0), (22, 0), (25, 0), (26, 0), (32, 9), (32, 11), (32, 12), (33000037, 0)], [
  (5, [(3, .ofNat 0, .ofNat 4095), (4, .negSucc 2147483647, .ofNat 2147483647)], [], [], [], [(32, (0, .ofNat 8), .inr (false, (3, .ofNat 0))), (32, (0, .ofNat 11), .inr (false, (4, .ofNat 0)))], [], [])], [], 0, 0)
def cu1182 : List sxCu := [
  (9, (4, [(1, .ofNat 0, .ofNat 17), (2, .ofNat 0, .ofNat 1), (3, .ofNat 0, .ofNat 17)], [(2, 3, .ofNat 0), (3, 1, .ofNat 1)], [(0, .inl 32), (1, .inl 31), (2, .inr (false, (1, .ofNat 0))), (3, .inr (false, (2, .ofNat 0))), (4, .inr (false, (3, .ofNat 0)))], [], [], [], []), ((0, 3, .ofNat 17), (0, 0, .ofNat 0), (0, 0, .ofNat 0)), 0, 0)]
set_option maxRecDepth 1000000 in
theorem cv1182 {gh : sxGh} (hg : sxGd sxKw gh) : sxCtV sxKw gh ct1182 := sxMeB_ok (cts := [ct467, ct331, ct1180, ct351, ct1181, ct350]) (cuts := cu1182) (sp := []) 134 (by decide +kernel) hg (by decide) (by decide) (List.forall_mem_cons.mpr ⟨cv467 hg, (List.forall_mem_cons.mpr ⟨cv331 hg, (List.forall_mem_cons.mpr ⟨cv1180 hg, (List.forall_mem_cons.mpr ⟨cv351 hg, (List.forall_mem_cons.mpr ⟨cv1181 hg, (List.forall_mem_cons.mpr ⟨cv350 hg, (fun _ h => absurd h List.not_mem_nil)⟩)⟩)⟩)⟩)⟩)⟩)
/-- LotBeliefs.laySalts -/
def ct1184 : sxCt := (188, 1, (2, [(1, .ofNat 0, .ofNat 3)], [], [(0, .inl 0), (1, .inr (false, (1, .ofNat 0)))], [], [], [], []), [(31, 0)], [
  (3, [(2, .ofNat 0, .ofNat 17)], [], [], [.inr (false, (2, .ofNat 0))], [], [], [])], [], 0, 0)
def cu1184 : List sxCu := [
  (4, (4, [(1, .ofNat 0, .ofNat 3), (2, .ofNat 0, .ofNat 5), (3, .ofNat 0, .ofNat 5)], [(2, 3, .ofNat 0)], [(0, .inl 0), (1, .inr (false, (1, .ofNat 0))), (2, .inr (false, (2, .ofNat 0))), (3, .inr (false, (3, .ofNat 0)))], [], [], [], []), ((0, 3, .ofNat 5), (0, 0, .ofNat 0), (0, 0, .ofNat 0)), 0, 0)]
set_option maxRecDepth 1000000 in
theorem cv1184 {gh : sxGh} (hg : sxGd sxKw gh) : sxCtV sxKw gh ct1184 := sxMeB_ok (cts := [ct1174]) (cuts := cu1184) (sp := []) 127 (by decide +kernel) hg (by decide) (by decide) (List.forall_mem_cons.mpr ⟨cv1174 hg, (fun _ h => absurd h List.not_mem_nil)⟩)
/-- LotBeliefs.laySalts -/
def ct1188 : sxCt := (188, 1, (2, [(1, .ofNat 0, .ofNat 7)], [], [(0, .inl 0), (1, .inr (false, (1, .ofNat 0)))], [], [], [], []), [(31, 0)], [
  (3, [(2, .ofNat 0, .ofNat 17)], [], [], [.inr (false, (2, .ofNat 0))], [], [], [])], [], 0, 0)
def cu1188 : List sxCu := [
  (4, (4, [(1, .ofNat 0, .ofNat 7), (2, .ofNat 0, .ofNat 5), (3, .ofNat 0, .ofNat 5)], [(2, 3, .ofNat 0)], [(0, .inl 0), (1, .inr (false, (1, .ofNat 0))), (2, .inr (false, (2, .ofNat 0))), (3, .inr (false, (3, .ofNat 0)))], [], [], [], []), ((0, 3, .ofNat 5), (0, 0, .ofNat 0), (0, 0, .ofNat 0)), 0, 0)]
set_option maxRecDepth 1000000 in
theorem cv1188 {gh : sxGh} (hg : sxGd sxKw gh) : sxCtV sxKw gh ct1188 := sxMeB_ok (cts := [ct1174]) (cuts := cu1188) (sp := []) 127 (by decide +kernel) hg (by decide) (by decide) (List.forall_mem_cons.mpr ⟨cv1174 hg, (fun _ h => absurd h List.not_mem_nil)⟩)
/-- LotBeliefs.laySalts -/
def ct1193 : sxCt := (188, 1, (2, [(1, .ofNat 0, .ofNat 15)], [], [(0, .inl 0), (1, .inr (false, (1, .ofNat 0)))], [], [], [], []), [(31, 0)], [
  (3, [(2, .ofNat 0, .ofNat 17)], [], [], [.inr (false, (2, .ofNat 0))], [], [], [])], [], 0, 0)
def cu1193 : List sxCu := [
  (4, (4, [(1, .ofNat 0, .ofNat 15), (2, .ofNat 0, .ofNat 5), (3, .ofNat 0, .ofNat 5)], [(2, 3, .ofNat 0)], [(0, .inl 0), (1, .inr (false, (1, .ofNat 0))), (2, .inr (false, (2, .ofNat 0))), (3, .inr (false, (3, .ofNat 0)))], [], [], [], []), ((0, 3, .ofNat 5), (0, 0, .ofNat 0), (0, 0, .ofNat 0)), 0, 0)]
set_option maxRecDepth 1000000 in
theorem cv1193 {gh : sxGh} (hg : sxGd sxKw gh) : sxCtV sxKw gh ct1193 := sxMeB_ok (cts := [ct1174]) (cuts := cu1193) (sp := []) 127 (by decide +kernel) hg (by decide) (by decide) (List.forall_mem_cons.mpr ⟨cv1174 hg, (fun _ h => absurd h List.not_mem_nil)⟩)
/-- LotBeliefs.laySalts -/
def ct1196 : sxCt := (188, 1, (2, [(1, .ofNat 0, .ofNat 39)], [], [(0, .inl 0), (1, .inr (false, (1, .ofNat 0)))], [], [], [], []), [(31, 0)], [
  (3, [(2, .ofNat 0, .ofNat 17)], [], [], [.inr (false, (2, .ofNat 0))], [], [], [])], [], 0, 0)
def cu1196 : List sxCu := [
  (4, (4, [(1, .ofNat 0, .ofNat 39), (2, .ofNat 0, .ofNat 5), (3, .ofNat 0, .ofNat 5)], [(2, 3, .ofNat 0)], [(0, .inl 0), (1, .inr (false, (1, .ofNat 0))), (2, .inr (false, (2, .ofNat 0))), (3, .inr (false, (3, .ofNat 0)))], [], [], [], []), ((0, 3, .ofNat 5), (0, 0, .ofNat 0), (0, 0, .ofNat 0)), 0, 0)]
set_option maxRecDepth 1000000 in
theorem cv1196 {gh : sxGh} (hg : sxGd sxKw gh) : sxCtV sxKw gh ct1196 := sxMeB_ok (cts := [ct1174]) (cuts := cu1196) (sp := []) 127 (by decide +kernel) hg (by decide) (by decide) (List.forall_mem_cons.mpr ⟨cv1174 hg, (fun _ h => absurd h List.not_mem_nil)⟩)
/-- LotBeliefs.salted -/
def ct1197 : sxCt := (143, 6, (2, [(1, .ofNat 0, .ofNat 4095)], [], [(0, .inl 0), (1, .inr (false, (1, .ofNat 0)))], [], [(0, (0, .ofNat 2), .inl 3), (3, (0, .ofNat 2), .inr (false, (0, .ofNat 12)))], [], []), [(21, 0), (22, 0), (25, 0), (26, 0), (31, 0), (32, 1), (32, 2), (32, 3), (32, 4), (32, 9), (32, 11), (32, 12), (33000037, 0)], [
  (3, [(2, .negSucc 0, .ofNat 37)], [], [], [.inr (false, (2, .ofNat 0))], [(0, (0, .ofNat 2), .inl 3), (3, (0, .ofNat 2), .inr (false, (0, .ofNat 12)))], [], [])], [], 0, 0)
def cu1197 : List sxCu := [
  (20, (5, [(1, .ofNat 0, .ofNat 4095), (2, .negSucc 0, .ofNat 37), (3, .ofNat 0, .ofNat 6), (4, .ofNat 0, .ofNat 38)], [(2, 4, .negSucc 0)], [(0, .inl 0), (1, .inr (false, (1, .ofNat 0))), (2, .inr (false, (2, .ofNat 0))), (3, .inr (false, (3, .ofNat 0))), (4, .inr (false, (4, .ofNat 0)))], [], [(0, (0, .ofNat 2), .inl 3), (3, (0, .ofNat 2), .inr (false, (0, .ofNat 12)))], [], []), ((0, 4, .ofNat 38), (0, 0, .ofNat 0), (0, 0, .ofNat 0)), 0, 0)]
set_option maxRecDepth 1000000 in
theorem cv1197 {gh : sxGh} (hg : sxGd sxKw gh) : sxCtV sxKw gh ct1197 := sxMeB_ok (cts := [ct1182, ct1196, ct966]) (cuts := cu1197) (sp := []) 202 (by decide +kernel) hg (by decide) (by decide) (List.forall_mem_cons.mpr ⟨cv1182 hg, (List.forall_mem_cons.mpr ⟨cv1196 hg, (List.forall_mem_cons.mpr ⟨cv966 hg, (fun _ h => absurd h List.not_mem_nil)⟩)⟩)⟩)
/-- LotBeliefs.salted -/
def ct1214 : sxCt := (143, 6, (2, [(1, .ofNat 0, .ofNat 2047)], [], [(0, .inl 0), (1, .inr (false, (1, .ofNat 0)))], [], [(0, (0, .ofNat 2), .inl 3), (3, (0, .ofNat 2), .inr (false, (0, .ofNat 11)))], [], []), [(21, 0), (22, 0), (25, 0), (26, 0), (31, 0), (32, 1), (32, 2), (32, 3), (32, 4), (32, 9), (32, 11), (32, 12), (33000037, 0)], [
  (3, [(2, .negSucc 0, .ofNat 37)], [], [], [.inr (false, (2, .ofNat 0))], [(0, (0, .ofNat 2), .inl 3), (3, (0, .ofNat 2), .inr (false, (0, .ofNat 11)))], [], [])], [], 0, 0)
def cu1214 : List sxCu := [
  (20, (5, [(1, .ofNat 0, .ofNat 2047), (2, .negSucc 0, .ofNat 37), (3, .ofNat 0, .ofNat 6), (4, .ofNat 0, .ofNat 38)], [(2, 4, .negSucc 0)], [(0, .inl 0), (1, .inr (false, (1, .ofNat 0))), (2, .inr (false, (2, .ofNat 0))), (3, .inr (false, (3, .ofNat 0))), (4, .inr (false, (4, .ofNat 0)))], [], [(0, (0, .ofNat 2), .inl 3), (3, (0, .ofNat 2), .inr (false, (0, .ofNat 11)))], [], []), ((0, 4, .ofNat 38), (0, 0, .ofNat 0), (0, 0, .ofNat 0)), 0, 0)]
set_option maxRecDepth 1000000 in
theorem cv1214 {gh : sxGh} (hg : sxGd sxKw gh) : sxCtV sxKw gh ct1214 := sxMeB_ok (cts := [ct1182, ct1196, ct966]) (cuts := cu1214) (sp := []) 202 (by decide +kernel) hg (by decide) (by decide) (List.forall_mem_cons.mpr ⟨cv1182 hg, (List.forall_mem_cons.mpr ⟨cv1196 hg, (List.forall_mem_cons.mpr ⟨cv966 hg, (fun _ h => absurd h List.not_mem_nil)⟩)⟩)⟩)
/-- LotBeliefs.salted -/
def ct1216 : sxCt := (143, 6, (2, [(1, .ofNat 0, .ofNat 1023)], [], [(0, .inl 0), (1, .inr (false, (1, .ofNat 0)))], [], [(0, (0, .ofNat 2), .inl 3), (3, (0, .ofNat 2), .inr (false, (0, .ofNat 10)))], [], []), [(21, 0), (22, 0), (25, 0), (26, 0), (31, 0), (32, 1), (32, 2), (32, 3), (32, 4), (32, 9), (32, 11), (32, 12), (33000037, 0)], [
  (3, [(2, .negSucc 0, .ofNat 37)], [], [], [.inr (false, (2, .ofNat 0))], [(0, (0, .ofNat 2), .inl 3), (3, (0, .ofNat 2), .inr (false, (0, .ofNat 10)))], [], [])], [], 0, 0)
def cu1216 : List sxCu := [
  (20, (5, [(1, .ofNat 0, .ofNat 1023), (2, .negSucc 0, .ofNat 37), (3, .ofNat 0, .ofNat 6), (4, .ofNat 0, .ofNat 38)], [(2, 4, .negSucc 0)], [(0, .inl 0), (1, .inr (false, (1, .ofNat 0))), (2, .inr (false, (2, .ofNat 0))), (3, .inr (false, (3, .ofNat 0))), (4, .inr (false, (4, .ofNat 0)))], [], [(0, (0, .ofNat 2), .inl 3), (3, (0, .ofNat 2), .inr (false, (0, .ofNat 10)))], [], []), ((0, 4, .ofNat 38), (0, 0, .ofNat 0), (0, 0, .ofNat 0)), 0, 0)]
set_option maxRecDepth 1000000 in
theorem cv1216 {gh : sxGh} (hg : sxGd sxKw gh) : sxCtV sxKw gh ct1216 := sxMeB_ok (cts := [ct1182, ct1196, ct966]) (cuts := cu1216) (sp := []) 202 (by decide +kernel) hg (by decide) (by decide) (List.forall_mem_cons.mpr ⟨cv1182 hg, (List.forall_mem_cons.mpr ⟨cv1196 hg, (List.forall_mem_cons.mpr ⟨cv966 hg, (fun _ h => absurd h List.not_mem_nil)⟩)⟩)⟩)
/-- LotBeliefs.salted -/
def ct1218 : sxCt := (143, 6, (2, [(1, .ofNat 0, .ofNat 511)], [], [(0, .inl 0), (1, .inr (false, (1, .ofNat 0)))], [], [(0, (0, .ofNat 2), .inl 3), (3, (0, .ofNat 2), .inr (false, (0, .ofNat 9)))], [], []), [(21, 0), (22, 0), (25, 0), (26, 0), (31, 0), (32, 1), (32, 2), (32, 3), (32, 4), (32, 9), (32, 11), (32, 12), (33000037, 0)], [
  (3, [(2, .negSucc 0, .ofNat 37)], [], [], [.inr (false, (2, .ofNat 0))], [(0, (0, .ofNat 2), .inl 3), (3, (0, .ofNat 2), .inr (false, (0, .ofNat 9)))], [], [])], [], 0, 0)
def cu1218 : List sxCu := [
  (20, (5, [(1, .ofNat 0, .ofNat 511), (2, .negSucc 0, .ofNat 37), (3, .ofNat 0, .ofNat 6), (4, .ofNat 0, .ofNat 38)], [(2, 4, .negSucc 0)], [(0, .inl 0), (1, .inr (false, (1, .ofNat 0))), (2, .inr (false, (2, .ofNat 0))), (3, .inr (false, (3, .ofNat 0))), (4, .inr (false, (4, .ofNat 0)))], [], [(0, (0, .ofNat 2), .inl 3), (3, (0, .ofNat 2), .inr (false, (0, .ofNat 9)))], [], []), ((0, 4, .ofNat 38), (0, 0, .ofNat 0), (0, 0, .ofNat 0)), 0, 0)]
set_option maxRecDepth 1000000 in
theorem cv1218 {gh : sxGh} (hg : sxGd sxKw gh) : sxCtV sxKw gh ct1218 := sxMeB_ok (cts := [ct1182, ct1196, ct966]) (cuts := cu1218) (sp := []) 202 (by decide +kernel) hg (by decide) (by decide) (List.forall_mem_cons.mpr ⟨cv1182 hg, (List.forall_mem_cons.mpr ⟨cv1196 hg, (List.forall_mem_cons.mpr ⟨cv966 hg, (fun _ h => absurd h List.not_mem_nil)⟩)⟩)⟩)
/-- LotBeliefs.salted -/
def ct1220 : sxCt := (143, 6, (2, [(1, .ofNat 0, .ofNat 255)], [], [(0, .inl 0), (1, .inr (false, (1, .ofNat 0)))], [], [(0, (0, .ofNat 2), .inl 3), (3, (0, .ofNat 2), .inr (false, (0, .ofNat 8)))], [], []), [(21, 0), (22, 0), (25, 0), (26, 0), (31, 0), (32, 1), (32, 2), (32, 3), (32, 4), (32, 9), (32, 11), (32, 12), (33000037, 0)], [
  (3, [(2, .negSucc 0, .ofNat 37)], [], [], [.inr (false, (2, .ofNat 0))], [(0, (0, .ofNat 2), .inl 3), (3, (0, .ofNat 2), .inr (false, (0, .ofNat 8)))], [], [])], [], 0, 0)
def cu1220 : List sxCu := [
  (20, (5, [(1, .ofNat 0, .ofNat 255), (2, .negSucc 0, .ofNat 37), (3, .ofNat 0, .ofNat 6), (4, .ofNat 0, .ofNat 38)], [(2, 4, .negSucc 0)], [(0, .inl 0), (1, .inr (false, (1, .ofNat 0))), (2, .inr (false, (2, .ofNat 0))), (3, .inr (false, (3, .ofNat 0))), (4, .inr (false, (4, .ofNat 0)))], [], [(0, (0, .ofNat 2), .inl 3), (3, (0, .ofNat 2), .inr (false, (0, .ofNat 8)))], [], []), ((0, 4, .ofNat 38), (0, 0, .ofNat 0), (0, 0, .ofNat 0)), 0, 0)]
set_option maxRecDepth 1000000 in
theorem cv1220 {gh : sxGh} (hg : sxGd sxKw gh) : sxCtV sxKw gh ct1220 := sxMeB_ok (cts := [ct1182, ct1196, ct966]) (cuts := cu1220) (sp := []) 202 (by decide +kernel) hg (by decide) (by decide) (List.forall_mem_cons.mpr ⟨cv1182 hg, (List.forall_mem_cons.mpr ⟨cv1196 hg, (List.forall_mem_cons.mpr ⟨cv966 hg, (fun _ h => absurd h List.not_mem_nil)⟩)⟩)⟩)
/-- LotBeliefs.salted -/
def ct1222 : sxCt := (143, 6, (2, [(1, .ofNat 0, .ofNat 127)], [], [(0, .inl 0), (1, .inr (false, (1, .ofNat 0)))], [], [(0, (0, .ofNat 2), .inl 3), (3, (0, .ofNat 2), .inr (false, (0, .ofNat 7)))], [], []), [(21, 0), (22, 0), (25, 0), (26, 0), (31, 0), (32, 1), (32, 2), (32, 3), (32, 4), (32, 9), (32, 11), (32, 12), (33000037, 0)], [
  (3, [(2, .negSucc 0, .ofNat 37)], [], [], [.inr (false, (2, .ofNat 0))], [(0, (0, .ofNat 2), .inl 3), (3, (0, .ofNat 2), .inr (false, (0, .ofNat 7)))], [], [])], [], 0, 0)
def cu1222 : List sxCu := [
  (20, (5, [(1, .ofNat 0, .ofNat 127), (2, .negSucc 0, .ofNat 37), (3, .ofNat 0, .ofNat 6), (4, .ofNat 0, .ofNat 38)], [(2, 4, .negSucc 0)], [(0, .inl 0), (1, .inr (false, (1, .ofNat 0))), (2, .inr (false, (2, .ofNat 0))), (3, .inr (false, (3, .ofNat 0))), (4, .inr (false, (4, .ofNat 0)))], [], [(0, (0, .ofNat 2), .inl 3), (3, (0, .ofNat 2), .inr (false, (0, .ofNat 7)))], [], []), ((0, 4, .ofNat 38), (0, 0, .ofNat 0), (0, 0, .ofNat 0)), 0, 0)]
set_option maxRecDepth 1000000 in
theorem cv1222 {gh : sxGh} (hg : sxGd sxKw gh) : sxCtV sxKw gh ct1222 := sxMeB_ok (cts := [ct1182, ct1196, ct966]) (cuts := cu1222) (sp := []) 202 (by decide +kernel) hg (by decide) (by decide) (List.forall_mem_cons.mpr ⟨cv1182 hg, (List.forall_mem_cons.mpr ⟨cv1196 hg, (List.forall_mem_cons.mpr ⟨cv966 hg, (fun _ h => absurd h List.not_mem_nil)⟩)⟩)⟩)
/-- LotBeliefs.salted -/
def ct1224 : sxCt := (143, 6, (2, [(1, .ofNat 0, .ofNat 63)], [], [(0, .inl 0), (1, .inr (false, (1, .ofNat 0)))], [], [(0, (0, .ofNat 2), .inl 3), (3, (0, .ofNat 2), .inr (false, (0, .ofNat 6)))], [], []), [(21, 0), (22, 0), (25, 0), (26, 0), (31, 0), (32, 1), (32, 2), (32, 3), (32, 4), (32, 9), (32, 11), (32, 12), (33000037, 0)], [
  (3, [(2, .negSucc 0, .ofNat 37)], [], [], [.inr (false, (2, .ofNat 0))], [(0, (0, .ofNat 2), .inl 3), (3, (0, .ofNat 2), .inr (false, (0, .ofNat 6)))], [], [])], [], 0, 0)
def cu1224 : List sxCu := [
  (20, (5, [(1, .ofNat 0, .ofNat 63), (2, .negSucc 0, .ofNat 37), (3, .ofNat 0, .ofNat 6), (4, .ofNat 0, .ofNat 38)], [(2, 4, .negSucc 0)], [(0, .inl 0), (1, .inr (false, (1, .ofNat 0))), (2, .inr (false, (2, .ofNat 0))), (3, .inr (false, (3, .ofNat 0))), (4, .inr (false, (4, .ofNat 0)))], [], [(0, (0, .ofNat 2), .inl 3), (3, (0, .ofNat 2), .inr (false, (0, .ofNat 6)))], [], []), ((0, 4, .ofNat 38), (0, 0, .ofNat 0), (0, 0, .ofNat 0)), 0, 0)]
set_option maxRecDepth 1000000 in
theorem cv1224 {gh : sxGh} (hg : sxGd sxKw gh) : sxCtV sxKw gh ct1224 := sxMeB_ok (cts := [ct1182, ct1196, ct966]) (cuts := cu1224) (sp := []) 202 (by decide +kernel) hg (by decide) (by decide) (List.forall_mem_cons.mpr ⟨cv1182 hg, (List.forall_mem_cons.mpr ⟨cv1196 hg, (List.forall_mem_cons.mpr ⟨cv966 hg, (fun _ h => absurd h List.not_mem_nil)⟩)⟩)⟩)
/-- LotBeliefs.salted -/
def ct1226 : sxCt := (143, 6, (2, [(1, .ofNat 0, .ofNat 31)], [], [(0, .inl 0), (1, .inr (false, (1, .ofNat 0)))], [], [(0, (0, .ofNat 2), .inl 3), (3, (0, .ofNat 2), .inr (false, (0, .ofNat 5)))], [], []), [(21, 0), (22, 0), (25, 0), (26, 0), (31, 0), (32, 1), (32, 2), (32, 3), (32, 4), (32, 9), (32, 11), (32, 12), (33000037, 0)], [
  (3, [(2, .negSucc 0, .ofNat 37)], [], [], [.inr (false, (2, .ofNat 0))], [(0, (0, .ofNat 2), .inl 3), (3, (0, .ofNat 2), .inr (false, (0, .ofNat 5)))], [], [])], [], 0, 0)
def cu1226 : List sxCu := [
  (20, (5, [(1, .ofNat 0, .ofNat 31), (2, .negSucc 0, .ofNat 37), (3, .ofNat 0, .ofNat 6), (4, .ofNat 0, .ofNat 38)], [(2, 4, .negSucc 0)], [(0, .inl 0), (1, .inr (false, (1, .ofNat 0))), (2, .inr (false, (2, .ofNat 0))), (3, .inr (false, (3, .ofNat 0))), (4, .inr (false, (4, .ofNat 0)))], [], [(0, (0, .ofNat 2), .inl 3), (3, (0, .ofNat 2), .inr (false, (0, .ofNat 5)))], [], []), ((0, 4, .ofNat 38), (0, 0, .ofNat 0), (0, 0, .ofNat 0)), 0, 0)]
set_option maxRecDepth 1000000 in
theorem cv1226 {gh : sxGh} (hg : sxGd sxKw gh) : sxCtV sxKw gh ct1226 := sxMeB_ok (cts := [ct1182, ct1196, ct966]) (cuts := cu1226) (sp := []) 202 (by decide +kernel) hg (by decide) (by decide) (List.forall_mem_cons.mpr ⟨cv1182 hg, (List.forall_mem_cons.mpr ⟨cv1196 hg, (List.forall_mem_cons.mpr ⟨cv966 hg, (fun _ h => absurd h List.not_mem_nil)⟩)⟩)⟩)
/-- LotBeliefs.salted -/
def ct1228 : sxCt := (143, 6, (2, [(1, .ofNat 0, .ofNat 15)], [], [(0, .inl 0), (1, .inr (false, (1, .ofNat 0)))], [], [(0, (0, .ofNat 2), .inl 3), (3, (0, .ofNat 2), .inr (false, (0, .ofNat 4)))], [], []), [(21, 0), (22, 0), (25, 0), (26, 0), (31, 0), (32, 1), (32, 2), (32, 3), (32, 4), (32, 9), (32, 11), (32, 12), (33000037, 0)], [
  (3, [(2, .negSucc 0, .ofNat 37)], [], [], [.inr (false, (2, .ofNat 0))], [(0, (0, .ofNat 2), .inl 3), (3, (0, .ofNat 2), .inr (false, (0, .ofNat 4)))], [], [])], [], 0, 0)
def cu1228 : List sxCu := [
  (20, (5, [(1, .ofNat 0, .ofNat 15), (2, .negSucc 0, .ofNat 37), (3, .ofNat 0, .ofNat 6), (4, .ofNat 0, .ofNat 38)], [(2, 4, .negSucc 0)], [(0, .inl 0), (1, .inr (false, (1, .ofNat 0))), (2, .inr (false, (2, .ofNat 0))), (3, .inr (false, (3, .ofNat 0))), (4, .inr (false, (4, .ofNat 0)))], [], [(0, (0, .ofNat 2), .inl 3), (3, (0, .ofNat 2), .inr (false, (0, .ofNat 4)))], [], []), ((0, 4, .ofNat 38), (0, 0, .ofNat 0), (0, 0, .ofNat 0)), 0, 0)]
set_option maxRecDepth 1000000 in
theorem cv1228 {gh : sxGh} (hg : sxGd sxKw gh) : sxCtV sxKw gh ct1228 := sxMeB_ok (cts := [ct1182, ct1196, ct966]) (cuts := cu1228) (sp := []) 202 (by decide +kernel) hg (by decide) (by decide) (List.forall_mem_cons.mpr ⟨cv1182 hg, (List.forall_mem_cons.mpr ⟨cv1196 hg, (List.forall_mem_cons.mpr ⟨cv966 hg, (fun _ h => absurd h List.not_mem_nil)⟩)⟩)⟩)
/-- LotBeliefs.salted -/
def ct1230 : sxCt := (143, 6, (2, [(1, .ofNat 0, .ofNat 7)], [], [(0, .inl 0), (1, .inr (false, (1, .ofNat 0)))], [], [(0, (0, .ofNat 2), .inl 3), (3, (0, .ofNat 2), .inr (false, (0, .ofNat 3)))], [], []), [(21, 0), (22, 0), (25, 0), (26, 0), (31, 0), (32, 1), (32, 2), (32, 3), (32, 4), (32, 9), (32, 11), (32, 12), (33000037, 0)], [
  (3, [(2, .negSucc 0, .ofNat 37)], [], [], [.inr (false, (2, .ofNat 0))], [(0, (0, .ofNat 2), .inl 3), (3, (0, .ofNat 2), .inr (false, (0, .ofNat 3)))], [], [])], [], 0, 0)
def cu1230 : List sxCu := [
  (20, (5, [(1, .ofNat 0, .ofNat 7), (2, .negSucc 0, .ofNat 37), (3, .ofNat 0, .ofNat 6), (4, .ofNat 0, .ofNat 38)], [(2, 4, .negSucc 0)], [(0, .inl 0), (1, .inr (false, (1, .ofNat 0))), (2, .inr (false, (2, .ofNat 0))), (3, .inr (false, (3, .ofNat 0))), (4, .inr (false, (4, .ofNat 0)))], [], [(0, (0, .ofNat 2), .inl 3), (3, (0, .ofNat 2), .inr (false, (0, .ofNat 3)))], [], []), ((0, 4, .ofNat 38), (0, 0, .ofNat 0), (0, 0, .ofNat 0)), 0, 0)]
set_option maxRecDepth 1000000 in
theorem cv1230 {gh : sxGh} (hg : sxGd sxKw gh) : sxCtV sxKw gh ct1230 := sxMeB_ok (cts := [ct1182, ct1196, ct966]) (cuts := cu1230) (sp := []) 202 (by decide +kernel) hg (by decide) (by decide) (List.forall_mem_cons.mpr ⟨cv1182 hg, (List.forall_mem_cons.mpr ⟨cv1196 hg, (List.forall_mem_cons.mpr ⟨cv966 hg, (fun _ h => absurd h List.not_mem_nil)⟩)⟩)⟩)
/-- LotBeliefs.salted -/
def ct1232 : sxCt := (143, 6, (2, [(1, .ofNat 0, .ofNat 3)], [], [(0, .inl 0), (1, .inr (false, (1, .ofNat 0)))], [], [(0, (0, .ofNat 2), .inl 3), (3, (0, .ofNat 2), .inr (false, (0, .ofNat 2)))], [], []), [(21, 0), (22, 0), (25, 0), (26, 0), (31, 0), (32, 1), (32, 2), (32, 3), (32, 4), (32, 9), (32, 11), (32, 12), (33000037, 0)], [
  (3, [(2, .negSucc 0, .ofNat 37)], [], [], [.inr (false, (2, .ofNat 0))], [(0, (0, .ofNat 2), .inl 3), (3, (0, .ofNat 2), .inr (false, (0, .ofNat 2)))], [], [])], [], 0, 0)
def cu1232 : List sxCu := [
  (20, (5, [(1, .ofNat 0, .ofNat 3), (2, .negSucc 0, .ofNat 37), (3, .ofNat 0, .ofNat 6), (4, .ofNat 0, .ofNat 38)], [(2, 4, .negSucc 0)], [(0, .inl 0), (1, .inr (false, (1, .ofNat 0))), (2, .inr (false, (2, .ofNat 0))), (3, .inr (false, (3, .ofNat 0))), (4, .inr (false, (4, .ofNat 0)))], [], [(0, (0, .ofNat 2), .inl 3), (3, (0, .ofNat 2), .inr (false, (0, .ofNat 2)))], [], []), ((0, 4, .ofNat 38), (0, 0, .ofNat 0), (0, 0, .ofNat 0)), 0, 0)]
set_option maxRecDepth 1000000 in
theorem cv1232 {gh : sxGh} (hg : sxGd sxKw gh) : sxCtV sxKw gh ct1232 := sxMeB_ok (cts := [ct1182, ct1196, ct966]) (cuts := cu1232) (sp := []) 202 (by decide +kernel) hg (by decide) (by decide) (List.forall_mem_cons.mpr ⟨cv1182 hg, (List.forall_mem_cons.mpr ⟨cv1196 hg, (List.forall_mem_cons.mpr ⟨cv966 hg, (fun _ h => absurd h List.not_mem_nil)⟩)⟩)⟩)
/-- LotBeliefs.salted -/
def ct1234 : sxCt := (143, 6, (2, [(1, .ofNat 0, .ofNat 1)], [], [(0, .inl 0), (1, .inr (false, (1, .ofNat 0)))], [], [(0, (0, .ofNat 2), .inl 3), (3, (0, .ofNat 2), .inr (false, (0, .ofNat 1)))], [], []), [(21, 0), (22, 0), (25, 0), (26, 0), (31, 0), (32, 1), (32, 2), (32, 3), (32, 4), (32, 9), (32, 11), (32, 12), (33000037, 0)], [
  (3, [(2, .negSucc 0, .ofNat 37)], [], [], [.inr (false, (2, .ofNat 0))], [(0, (0, .ofNat 2), .inl 3), (3, (0, .ofNat 2), .inr (false, (0, .ofNat 1)))], [], [])], [], 0, 0)
def cu1234 : List sxCu := [
  (20, (5, [(1, .ofNat 0, .ofNat 1), (2, .negSucc 0, .ofNat 37), (3, .ofNat 0, .ofNat 6), (4, .ofNat 0, .ofNat 38)], [(2, 4, .negSucc 0)], [(0, .inl 0), (1, .inr (false, (1, .ofNat 0))), (2, .inr (false, (2, .ofNat 0))), (3, .inr (false, (3, .ofNat 0))), (4, .inr (false, (4, .ofNat 0)))], [], [(0, (0, .ofNat 2), .inl 3), (3, (0, .ofNat 2), .inr (false, (0, .ofNat 1)))], [], []), ((0, 4, .ofNat 38), (0, 0, .ofNat 0), (0, 0, .ofNat 0)), 0, 0)]
set_option maxRecDepth 1000000 in
theorem cv1234 {gh : sxGh} (hg : sxGd sxKw gh) : sxCtV sxKw gh ct1234 := sxMeB_ok (cts := [ct1182, ct1196, ct966]) (cuts := cu1234) (sp := []) 202 (by decide +kernel) hg (by decide) (by decide) (List.forall_mem_cons.mpr ⟨cv1182 hg, (List.forall_mem_cons.mpr ⟨cv1196 hg, (List.forall_mem_cons.mpr ⟨cv966 hg, (fun _ h => absurd h List.not_mem_nil)⟩)⟩)⟩)
/-- LotBeliefs.salted -/
def ct1236 : sxCt := (143, 6, (2, [(1, .ofNat 0, .ofNat 0)], [], [(0, .inl 0), (1, .inr (false, (1, .ofNat 0)))], [], [(0, (0, .ofNat 2), .inl 3), (3, (0, .ofNat 2), .inr (false, (0, .ofNat 0)))], [], []), [(21, 0), (22, 0), (25, 0), (26, 0), (31, 0), (32, 1), (32, 2), (32, 3), (32, 4), (32, 9), (32, 11), (32, 12), (33000037, 0)], [
  (3, [(2, .negSucc 0, .ofNat 37)], [], [], [.inr (false, (2, .ofNat 0))], [(0, (0, .ofNat 2), .inl 3), (3, (0, .ofNat 2), .inr (false, (0, .ofNat 0)))], [], [])], [], 0, 0)
def cu1236 : List sxCu := [
  (20, (5, [(1, .ofNat 0, .ofNat 0), (2, .negSucc 0, .ofNat 37), (3, .ofNat 0, .ofNat 6), (4, .ofNat 0, .ofNat 38)], [(2, 4, .negSucc 0)], [(0, .inl 0), (1, .inr (false, (1, .ofNat 0))), (2, .inr (false, (2, .ofNat 0))), (3, .inr (false, (3, .ofNat 0))), (4, .inr (false, (4, .ofNat 0)))], [], [(0, (0, .ofNat 2), .inl 3), (3, (0, .ofNat 2), .inr (false, (0, .ofNat 0)))], [], []), ((0, 4, .ofNat 38), (0, 0, .ofNat 0), (0, 0, .ofNat 0)), 0, 0)]
set_option maxRecDepth 1000000 in
theorem cv1236 {gh : sxGh} (hg : sxGd sxKw gh) : sxCtV sxKw gh ct1236 := sxMeB_ok (cts := [ct1182, ct1196, ct966]) (cuts := cu1236) (sp := []) 198 (by decide +kernel) hg (by decide) (by decide) (List.forall_mem_cons.mpr ⟨cv1182 hg, (List.forall_mem_cons.mpr ⟨cv1196 hg, (List.forall_mem_cons.mpr ⟨cv966 hg, (fun _ h => absurd h List.not_mem_nil)⟩)⟩)⟩)
/-- LotBeliefs.Survey.heldInAll -/
def ct1238 : sxCt := (77, 1, (2, [(1, .ofNat 0, .ofNat 4095)], [], [(0, .inl 74), (1, .inr (false, (1, .ofNat 0)))], [], [], [], []), [], [
  (3, [(2, .negSucc 2147483647, .ofNat 2147483647)], [], [], [.inr (false, (2, .ofNat 0))], [], [], [])], [], 0, 0)
def cu1238 : List sxCu := [
  (4, (4, [(1, .ofNat 0, .ofNat 4095), (2, .negSucc 2147483647, .ofNat 2147483647), (3, .ofNat 0, .ofNat 128)], [], [(0, .inl 74), (1, .inr (false, (1, .ofNat 0))), (2, .inr (false, (2, .ofNat 0))), (3, .inr (false, (3, .ofNat 0)))], [], [], [], []), ((0, 3, .ofNat 128), (0, 0, .ofNat 0), (0, 0, .ofNat 0)), 0, 0)]
set_option maxRecDepth 1000000 in
theorem cv1238 {gh : sxGh} (hg : sxGd sxKw gh) : sxCtV sxKw gh ct1238 := sxMeB_ok (cts := [ct977]) (cuts := cu1238) (sp := []) 86 (by decide +kernel) hg (by decide) (by decide) (List.forall_mem_cons.mpr ⟨cv977 hg, (fun _ h => absurd h List.not_mem_nil)⟩)
/-- LotBeliefs.Survey.heldInAll -/
def ct1239 : sxCt := (77, 1, (2, [(1, .ofNat 0, .ofNat 4095)], [], [(0, .inl 70), (1, .inr (false, (1, .ofNat 0)))], [], [], [], []), [], [
  (3, [(2, .negSucc 2147483647, .ofNat 2147483647)], [], [], [.inr (false, (2, .ofNat 0))], [], [], [])], [], 0, 0)
def cu1239 : List sxCu := [
  (4, (4, [(1, .ofNat 0, .ofNat 4095), (2, .negSucc 2147483647, .ofNat 2147483647), (3, .ofNat 0, .ofNat 128)], [], [(0, .inl 70), (1, .inr (false, (1, .ofNat 0))), (2, .inr (false, (2, .ofNat 0))), (3, .inr (false, (3, .ofNat 0)))], [], [], [], []), ((0, 3, .ofNat 128), (0, 0, .ofNat 0), (0, 0, .ofNat 0)), 0, 0)]
set_option maxRecDepth 1000000 in
theorem cv1239 {gh : sxGh} (hg : sxGd sxKw gh) : sxCtV sxKw gh ct1239 := sxMeB_ok (cts := [ct977]) (cuts := cu1239) (sp := []) 86 (by decide +kernel) hg (by decide) (by decide) (List.forall_mem_cons.mpr ⟨cv977 hg, (fun _ h => absurd h List.not_mem_nil)⟩)
/-- LotBeliefs.Survey.heldInAll -/
def ct1240 : sxCt := (77, 1, (2, [(1, .ofNat 0, .ofNat 4095)], [], [(0, .inl 66), (1, .inr (false, (1, .ofNat 0)))], [], [], [], []), [], [
  (3, [(2, .negSucc 2147483647, .ofNat 2147483647)], [], [], [.inr (false, (2, .ofNat 0))], [], [], [])], [], 0, 0)
def cu1240 : List sxCu := [
  (4, (4, [(1, .ofNat 0, .ofNat 4095), (2, .negSucc 2147483647, .ofNat 2147483647), (3, .ofNat 0, .ofNat 128)], [], [(0, .inl 66), (1, .inr (false, (1, .ofNat 0))), (2, .inr (false, (2, .ofNat 0))), (3, .inr (false, (3, .ofNat 0)))], [], [], [], []), ((0, 3, .ofNat 128), (0, 0, .ofNat 0), (0, 0, .ofNat 0)), 0, 0)]
set_option maxRecDepth 1000000 in
theorem cv1240 {gh : sxGh} (hg : sxGd sxKw gh) : sxCtV sxKw gh ct1240 := sxMeB_ok (cts := [ct977]) (cuts := cu1240) (sp := []) 86 (by decide +kernel) hg (by decide) (by decide) (List.forall_mem_cons.mpr ⟨cv977 hg, (fun _ h => absurd h List.not_mem_nil)⟩)
/-- LotBeliefs.Survey.heldInAll -/
def ct1241 : sxCt := (77, 1, (2, [(1, .ofNat 0, .ofNat 4095)], [], [(0, .inl 62), (1, .inr (false, (1, .ofNat 0)))], [], [], [], []), [], [
  (3, [(2, .negSucc 2147483647, .ofNat 2147483647)], [], [], [.inr (false, (2, .ofNat 0))], [], [], [])], [], 0, 0)
def cu1241 : List sxCu := [
  (4, (4, [(1, .ofNat 0, .ofNat 4095), (2, .negSucc 2147483647, .ofNat 2147483647), (3, .ofNat 0, .ofNat 128)], [], [(0, .inl 62), (1, .inr (false, (1, .ofNat 0))), (2, .inr (false, (2, .ofNat 0))), (3, .inr (false, (3, .ofNat 0)))], [], [], [], []), ((0, 3, .ofNat 128), (0, 0, .ofNat 0), (0, 0, .ofNat 0)), 0, 0)]
set_option maxRecDepth 1000000 in
theorem cv1241 {gh : sxGh} (hg : sxGd sxKw gh) : sxCtV sxKw gh ct1241 := sxMeB_ok (cts := [ct977]) (cuts := cu1241) (sp := []) 86 (by decide +kernel) hg (by decide) (by decide) (List.forall_mem_cons.mpr ⟨cv977 hg, (fun _ h => absurd h List.not_mem_nil)⟩)
/-- LotBeliefs.Survey.heldInAll -/
def ct1242 : sxCt := (77, 1, (2, [(1, .ofNat 0, .ofNat 4095)], [], [(0, .inl 58), (1, .inr (false, (1, .ofNat 0)))], [], [], [], []), [], [
  (3, [(2, .negSucc 2147483647, .ofNat 2147483647)], [], [], [.inr (false, (2, .ofNat 0))], [], [], [])], [], 0, 0)
def cu1242 : List sxCu := [
  (4, (4, [(1, .ofNat 0, .ofNat 4095), (2, .negSucc 2147483647, .ofNat 2147483647), (3, .ofNat 0, .ofNat 128)], [], [(0, .inl 58), (1, .inr (false, (1, .ofNat 0))), (2, .inr (false, (2, .ofNat 0))), (3, .inr (false, (3, .ofNat 0)))], [], [], [], []), ((0, 3, .ofNat 128), (0, 0, .ofNat 0), (0, 0, .ofNat 0)), 0, 0)]
set_option maxRecDepth 1000000 in
theorem cv1242 {gh : sxGh} (hg : sxGd sxKw gh) : sxCtV sxKw gh ct1242 := sxMeB_ok (cts := [ct977]) (cuts := cu1242) (sp := []) 86 (by decide +kernel) hg (by decide) (by decide) (List.forall_mem_cons.mpr ⟨cv977 hg, (fun _ h => absurd h List.not_mem_nil)⟩)
/-- LotBeliefs.drawRow -/
def ct1243 : sxCt := (185, 1, (2, [(1, .negSucc 2147483647, .ofNat 2147483647)], [], [(0, .inl 0), (1, .inr (false, (1, .ofNat 0)))], [], [], [], []), [(31, 0)], [
  (2, [], [], [], [], [], [], [])], [], 0, 0)
def cu1243 : List sxCu := [
  (2, (3, [(1, .negSucc 2147483647, .ofNat 2147483647), (2, .ofNat 0, .ofNat 12)], [], [(0, .inl 0), (1, .inr (false, (1, .ofNat 0))), (2, .inr (false, (2, .ofNat 0)))], [], [], [], []), ((0, 2, .ofNat 25), (0, 0, .ofNat 0), (0, 0, .ofNat 0)), 0, 0), 
  (38, (4, [(1, .negSucc 2147483647, .ofNat 2147483647), (2, .negSucc 2147483647, .ofNat 2147483647), (3, .negSucc 0, .ofNat 11)], [], [(0, .inl 0), (1, .inr (false, (1, .ofNat 0))), (2, .inr (false, (2, .ofNat 0))), (3, .inr (false, (3, .ofNat 0)))], [], [], [], []), ((3, 0, .ofNat 1), (0, 0, .ofNat 0), (0, 0, .ofNat 0)), 0, 0)]
set_option maxRecDepth 1000000 in
theorem cv1243 {gh : sxGh} (hg : sxGd sxKw gh) : sxCtV sxKw gh ct1243 := sxMeB_ok (cts := []) (cuts := cu1243) (sp := []) 142 (by decide +kernel) hg (by decide) (by decide) (fun _ h => absurd h List.not_mem_nil)
/-- LotBeliefs.drawn -/
def ct1244 : sxCt := (146, 6, (4, [(1, .ofNat 0, .ofNat 4), (2, .negSucc 2147483647, .ofNat 2147483647), (3, .ofNat 1, .ofNat 60)], [], [(0, .inl 0), (1, .inr (false, (1, .ofNat 0))), (2, .inr (false, (2, .ofNat 0))), (3, .inr (false, (3, .ofNat 0)))], [], [], [], []), [(21, 0), (22, 0), (25, 0), (26, 0), (31, 0), (32, 1), (32, 2), (32, 3), (32, 4), (32, 9), (32, 11), (32, 12), (33000037, 0)], [
  (5, [(4, .negSucc 2147483647, .ofNat 2147483647)], [], [], [.inr (false, (4, .ofNat 0))], [], [], [])], [], 0, 0)
def cu1244 : List sxCu := [
  (33, (8, [(1, .ofNat 0, .ofNat 4), (2, .negSucc 2147483647, .ofNat 2147483647), (3, .ofNat 1, .ofNat 60), (4, .ofNat 0, .ofNat 4095), (5, .negSucc 2147483647, .ofNat 2147483647), (6, .ofNat 0, .ofNat 63), (7, .ofNat 0, .ofNat 63)], [], [(0, .inl 0), (1, .inr (false, (1, .ofNat 0))), (2, .inr (false, (2, .ofNat 0))), (3, .inr (false, (3, .ofNat 0))), (4, .inr (false, (4, .ofNat 0))), (5, .inr (false, (5, .ofNat 0))), (6, .inr (false, (6, .ofNat 0)))], [], [(0, (0, .ofNat 7), .inl 27), (27, (0, .ofNat 2), .inr (false, (7, .ofNat 0)))], [], []), ((0, 6, .ofNat 63), (0, 0, .ofNat 0), (0, 0, .ofNat 0)), 0, 0)]
set_option maxRecDepth 1000000 in
theorem cv1244 {gh : sxGh} (hg : sxGd sxKw gh) : sxCtV sxKw gh ct1244 := sxMeB_ok (cts := [ct468, ct1168, ct324, ct1243, ct462]) (cuts := cu1244) (sp := []) 286 (by decide +kernel) hg (by decide) (by decide) (List.forall_mem_cons.mpr ⟨cv468 hg, (List.forall_mem_cons.mpr ⟨cv1168 hg, (List.forall_mem_cons.mpr ⟨cv324 hg, (List.forall_mem_cons.mpr ⟨cv1243 hg, (List.forall_mem_cons.mpr ⟨cv462 hg, (fun _ h => absurd h List.not_mem_nil)⟩)⟩)⟩)⟩)⟩)
/-- LotBeliefsModel.rowBy -/
def ct1245 : sxCt := (290, 0, (2, [(1, .negSucc 2147483647, .ofNat 2147483647)], [], [(0, .inl 78), (1, .inr (false, (1, .ofNat 0)))], [], [], [], []), [(78, 44), (560, 0)], [
  (3, [(2, .ofNat 0, .ofNat 12)], [], [], [], [(78, (0, .ofNat 43), .inr (false, (2, .ofNat 0)))], [], [])], [], 0, 0)
def cu1245 : List sxCu := [
  (14, (4, [(1, .negSucc 2147483647, .ofNat 2147483647), (2, .ofNat 0, .ofNat 12), (3, .ofNat 0, .ofNat 12)], [], [(0, .inl 78), (1, .inr (false, (1, .ofNat 0))), (2, .inr (false, (1, .ofNat 0))), (3, .inr (false, (2, .ofNat 0)))], [], [(78, (0, .ofNat 12), .inl 82), (78, (0, .ofNat 43), .inr (false, (3, .ofNat 0))), (82, (0, .ofNat 1), .inr (false, (3, .ofNat 0)))], [], []), ((0, 2, .ofNat 25), (0, 0, .ofNat 0), (0, 0, .ofNat 0)), 0, 0), 
  (42, (5, [(1, .negSucc 2147483647, .ofNat 2147483647), (2, .negSucc 2147483647, .ofNat 2147483647), (3, .negSucc 0, .ofNat 11), (4, .ofNat 0, .ofNat 12)], [(3, 4, .negSucc 0)], [(0, .inl 78), (1, .inr (false, (1, .ofNat 0))), (2, .inr (false, (2, .ofNat 0))), (3, .inr (false, (3, .ofNat 0)))], [], [(78, (0, .ofNat 12), .inl 82), (78, (0, .ofNat 43), .inr (false, (4, .ofNat 0))), (82, (0, .ofNat 1), .inr (false, (4, .ofNat 0)))], [], []), ((3, 0, .ofNat 1), (0, 0, .ofNat 0), (0, 0, .ofNat 0)), 0, 0)]
set_option maxRecDepth 1000000 in
theorem cv1245 {gh : sxGh} (hg : sxGd sxKw gh) : sxCtV sxKw gh ct1245 := sxMeB_ok (cts := []) (cuts := cu1245) (sp := []) 125 (by decide +kernel) hg (by decide) (by decide) (fun _ h => absurd h List.not_mem_nil)
/-- LotBeliefs.runSchool -/
def ct1257 : sxCt := (189, 5, (2, [(1, .ofNat 0, .ofNat 1)], [], [(0, .inl 0), (1, .inl 32), (2, .inr (false, (1, .ofNat 0)))], [], [], [], []), [(21, 0), (22, 0), (25, 0), (26, 0), (31, 0), (32, 1), (32, 2), (32, 3), (32, 4), (32, 9), (32, 11), (32, 12), (33000037, 0)], [
  (6, [(2, .ofNat 0, .ofNat 4), (3, .ofNat 0, .ofNat 63), (4, .ofNat 0, .ofNat 4095), (5, .negSucc 2147483647, .ofNat 2147483647)], [], [], [], [(32, (0, .ofNat 2), .inr (false, (2, .ofNat 0))), (32, (0, .ofNat 3), .inr (false, (3, .ofNat 0))), (32, (0, .ofNat 8), .inr (false, (4, .ofNat 0))), (32, (0, .ofNat 11), .inr (false, (5, .ofNat 0)))], [], [])], [], 0, 0)
def cu1257 : List sxCu := [
  (2, (3, [(1, .ofNat 0, .ofNat 1), (2, .ofNat 0, .ofNat 12)], [], [(0, .inl 0), (1, .inl 32), (2, .inr (false, (1, .ofNat 0))), (3, .inr (false, (2, .ofNat 0)))], [], [], [], []), ((0, 2, .ofNat 12), (0, 0, .ofNat 0), (0, 0, .ofNat 0)), 0, 0)]
set_option maxRecDepth 1000000 in
theorem cv1257 {gh : sxGh} (hg : sxGd sxKw gh) : sxCtV sxKw gh ct1257 := sxMeB_ok (cts := [ct468]) (cuts := cu1257) (sp := []) 241 (by decide +kernel) hg (by decide) (by decide) (List.forall_mem_cons.mpr ⟨cv468 hg, (fun _ h => absurd h List.not_mem_nil)⟩)
/-- LotBeliefs.Jar.common -/
def ct1307 : sxCt := (28, 0, (3, [(1, .ofNat 0, .ofNat 4095), (2, .ofNat 0, .ofNat 51)], [], [(0, .inl 11), (1, .inr (false, (1, .ofNat 0))), (2, .inr (false, (2, .ofNat 0)))], [], [], [], []), [], [
  (4, [(3, .negSucc 9223372036854775807, .ofNat 9223372036854775807)], [], [], [.inr (true, (3, .ofNat 0))], [], [], [])], [], 0, 0)
def cu1307 : List sxCu := [
  (10, (5, [(1, .ofNat 0, .ofNat 4095), (2, .ofNat 0, .ofNat 51), (3, .negSucc 9223372036854775807, .ofNat 9223372036854775807), (4, .ofNat 0, .ofNat 12)], [], [(0, .inl 11), (1, .inr (false, (1, .ofNat 0))), (2, .inr (false, (2, .ofNat 0))), (3, .inr (true, (3, .ofNat 0))), (5, .inr (false, (4, .ofNat 0)))], [], [(11, (0, .ofNat 11), .inl 16)], [], []), ((0, 4, .ofNat 12), (0, 0, .ofNat 0), (0, 0, .ofNat 0)), 0, 0)]
set_option maxRecDepth 1000000 in
theorem cv1307 {gh : sxGh} (hg : sxGd sxKw gh) : sxCtV sxKw gh ct1307 := sxMeB_ok (cts := []) (cuts := cu1307) (sp := []) 90 (by decide +kernel) hg (by decide) (by decide) (fun _ h => absurd h List.not_mem_nil)
/-- LotBeliefs.right -/
def ct1308 : sxCt := (150, 6, (2, [(1, .ofNat 0, .ofNat 1)], [], [(0, .inl 0), (1, .inr (false, (1, .ofNat 0)))], [], [], [], []), [(21, 0), (22, 0), (25, 0), (26, 0), (31, 0), (32, 1), (32, 2), (32, 3), (32, 4), (32, 9), (32, 11), (32, 12), (33000037, 0)], [
  (7, [(2, .negSucc 0, .ofNat 51), (3, .ofNat 0, .ofNat 4), (4, .ofNat 0, .ofNat 63), (5, .ofNat 0, .ofNat 4095), (6, .negSucc 2147483647, .ofNat 2147483647)], [], [], [.inr (false, (2, .ofNat 0))], [(32, (0, .ofNat 2), .inr (false, (3, .ofNat 0))), (32, (0, .ofNat 3), .inr (false, (4, .ofNat 0))), (32, (0, .ofNat 8), .inr (false, (5, .ofNat 0))), (32, (0, .ofNat 11), .inr (false, (6, .ofNat 0)))], [], [])], [], 0, 0)
def cu1308 : List sxCu := [
  (17, (7, [(1, .ofNat 0, .ofNat 1), (2, .ofNat 0, .ofNat 52), (3, .ofNat 0, .ofNat 4), (4, .ofNat 0, .ofNat 63), (5, .ofNat 0, .ofNat 4095), (6, .negSucc 2147483647, .ofNat 2147483647)], [], [(0, .inl 0), (1, .inr (false, (1, .ofNat 0))), (2, .inr (false, (2, .ofNat 0)))], [], [(0, (0, .ofNat 12), .inl 32), (32, (0, .ofNat 2), .inr (false, (3, .ofNat 0))), (32, (0, .ofNat 3), .inr (false, (4, .ofNat 0))), (32, (0, .ofNat 8), .inr (false, (5, .ofNat 0))), (32, (0, .ofNat 11), .inr (false, (6, .ofNat 0)))], [], []), ((0, 2, .ofNat 52), (0, 0, .ofNat 0), (0, 0, .ofNat 0)), 0, 0)]
set_option maxRecDepth 1000000 in
theorem cv1308 {gh : sxGh} (hg : sxGd sxKw gh) : sxCtV sxKw gh ct1308 := sxMeB_ok (cts := [ct371, ct1307, ct460, ct1257]) (cuts := cu1308) (sp := []) 131 (by decide +kernel) hg (by decide) (by decide) (List.forall_mem_cons.mpr ⟨cv371 hg, (List.forall_mem_cons.mpr ⟨cv1307 hg, (List.forall_mem_cons.mpr ⟨cv460 hg, (List.forall_mem_cons.mpr ⟨cv1257 hg, (fun _ h => absurd h List.not_mem_nil)⟩)⟩)⟩)⟩)
/-- LotBeliefsModel.togetherIn -/
def ct1325 : sxCt := (274, 0, (3, [(1, .negSucc 2147483647, .ofNat 2147483647), (2, .ofNat 0, .ofNat 51)], [], [(0, .inl 78), (1, .inr (false, (1, .ofNat 0))), (2, .inr (false, (2, .ofNat 0)))], [], [], [], []), [], [
  (4, [(3, .negSucc 9223372036854775807, .ofNat 9223372036854775807)], [], [], [.inr (true, (3, .ofNat 0))], [], [], [])], [], 0, 0)
def cu1325 : List sxCu := [
  (10, (5, [(1, .negSucc 2147483647, .ofNat 2147483647), (2, .ofNat 0, .ofNat 51), (3, .negSucc 9223372036854775807, .ofNat 9223372036854775807), (4, .ofNat 0, .ofNat 12)], [], [(0, .inl 78), (1, .inr (false, (1, .ofNat 0))), (2, .inr (false, (2, .ofNat 0))), (3, .inr (true, (3, .ofNat 0))), (5, .inr (false, (4, .ofNat 0)))], [], [(78, (0, .ofNat 19), .inl 89)], [], []), ((0, 4, .ofNat 12), (0, 0, .ofNat 0), (0, 0, .ofNat 0)), 0, 0)]
set_option maxRecDepth 1000000 in
theorem cv1325 {gh : sxGh} (hg : sxGd sxKw gh) : sxCtV sxKw gh ct1325 := sxMeB_ok (cts := []) (cuts := cu1325) (sp := []) 97 (by decide +kernel) hg (by decide) (by decide) (fun _ h => absurd h List.not_mem_nil)
/-- LotBeliefs.killer -/
def ct1327 : sxCt := (152, 6, (3, [(1, .ofNat 0, .ofNat 11), (2, .ofNat 0, .ofNat 12)], [(1, 2, .negSucc 0)], [(0, .inl 0), (1, .inr (false, (1, .ofNat 0)))], [], [(0, (0, .ofNat 2), .inl 3), (3, (0, .ofNat 2), .inr (false, (2, .ofNat 0)))], [], []), [(21, 0), (22, 0), (25, 0), (26, 0), (32, 1), (32, 2), (32, 3), (32, 4), (32, 9), (32, 11), (32, 12), (33000037, 0)], [
  (8, [(3, .negSucc 0, .ofNat 11), (4, .ofNat 0, .ofNat 4), (5, .ofNat 0, .ofNat 63), (6, .ofNat 0, .ofNat 4095), (7, .negSucc 2147483647, .ofNat 2147483647)], [], [], [.inr (false, (3, .ofNat 0))], [(0, (0, .ofNat 2), .inl 3), (3, (0, .ofNat 2), .inr (false, (2, .ofNat 0))), (32, (0, .ofNat 0), .inl 3), (32, (0, .ofNat 2), .inr (false, (4, .ofNat 0))), (32, (0, .ofNat 3), .inr (false, (5, .ofNat 0))), (32, (0, .ofNat 8), .inr (false, (6, .ofNat 0))), (32, (0, .ofNat 11), .inr (false, (7, .ofNat 0)))], [], [])], [], 0, 0)
def cu1327 : List sxCu := [
  (36, (9, [(1, .ofNat 0, .ofNat 11), (2, .ofNat 0, .ofNat 12), (3, .negSucc 9223372036854775807, .ofNat 9223372036854775807), (4, .ofNat 0, .ofNat 12), (5, .ofNat 0, .ofNat 4), (6, .ofNat 0, .ofNat 63), (7, .ofNat 0, .ofNat 4095), (8, .negSucc 2147483647, .ofNat 2147483647)], [(1, 2, .negSucc 0)], [(0, .inl 0), (1, .inr (false, (1, .ofNat 0))), (2, .inr (true, (3, .ofNat 0))), (4, .inr (false, (4, .ofNat 0)))], [], [(0, (0, .ofNat 2), .inl 3), (0, (0, .ofNat 7), .inl 27), (0, (0, .ofNat 12), .inl 32), (3, (0, .ofNat 2), .inr (false, (2, .ofNat 0))), (3, (0, .ofNat 7), .inl 4), (27, (0, .ofNat 0), .inl 28), (27, (0, .ofNat 1), .inr (false, (5, .ofNat 0))), (27, (0, .ofNat 2), .inr (false, (6, .ofNat 0))), (32, (0, .ofNat 0), .inl 3), (32, (0, .ofNat 2), .inr (false, (5, .ofNat 0))), (32, (0, .ofNat 3), .inr (false, (6, .ofNat 0))), (32, (0, .ofNat 7), .inl 36), (32, (0, .ofNat 8), .inr (false, (7, .ofNat 0))), (32, (0, .ofNat 11), .inr (false, (8, .ofNat 0)))], [], []), ((0, 4, .ofNat 12), (0, 0, .ofNat 0), (0, 0, .ofNat 0)), 0, 0)]
set_option maxRecDepth 1000000 in
theorem cv1327 {gh : sxGh} (hg : sxGd sxKw gh) : sxCtV sxKw gh ct1327 := sxMeB_ok (cts := [ct370]) (cuts := cu1327) (sp := []) 215 (by decide +kernel) hg (by decide) (by decide) (List.forall_mem_cons.mpr ⟨cv370 hg, (fun _ h => absurd h List.not_mem_nil)⟩)
/-- LotBeliefsModel.together -/
def ct1329 : sxCt := (296, 3, (3, [(1, .ofNat 0, .ofNat 4095), (2, .ofNat 0, .ofNat 51)], [], [(0, .inl 78), (1, .inr (false, (1, .ofNat 0))), (2, .inr (false, (2, .ofNat 0)))], [], [(82, (0, .ofNat 1), .inr (false, (0, .ofNat 12)))], [], []), [(78, 1)], [
  (4, [(3, .negSucc 9223372036854775807, .ofNat 9223372036854775807)], [], [], [.inr (true, (3, .ofNat 0))], [(78, (0, .ofNat 0), .inr (false, (0, .ofNat 0))), (82, (0, .ofNat 1), .inr (false, (0, .ofNat 12)))], [], [])], [], 0, 0)
def cu1329 : List sxCu := []
set_option maxRecDepth 1000000 in
theorem cv1329 {gh : sxGh} (hg : sxGd sxKw gh) : sxCtV sxKw gh ct1329 := sxMeB_ok (cts := [ct461]) (cuts := cu1329) (sp := []) 129 (by decide +kernel) hg (by decide) (by decide) (List.forall_mem_cons.mpr ⟨cv461 hg, (fun _ h => absurd h List.not_mem_nil)⟩)
/-- LotBeliefsModel.together -/
def ct1330 : sxCt := (296, 3, (3, [(1, .ofNat 0, .ofNat 2047), (2, .ofNat 0, .ofNat 51)], [], [(0, .inl 78), (1, .inr (false, (1, .ofNat 0))), (2, .inr (false, (2, .ofNat 0)))], [], [(82, (0, .ofNat 1), .inr (false, (0, .ofNat 11)))], [], []), [(78, 1)], [
  (4, [(3, .negSucc 9223372036854775807, .ofNat 9223372036854775807)], [], [], [.inr (true, (3, .ofNat 0))], [(78, (0, .ofNat 0), .inr (false, (0, .ofNat 0))), (82, (0, .ofNat 1), .inr (false, (0, .ofNat 11)))], [], [])], [], 0, 0)
def cu1330 : List sxCu := []
set_option maxRecDepth 1000000 in
theorem cv1330 {gh : sxGh} (hg : sxGd sxKw gh) : sxCtV sxKw gh ct1330 := sxMeB_ok (cts := [ct461]) (cuts := cu1330) (sp := []) 129 (by decide +kernel) hg (by decide) (by decide) (List.forall_mem_cons.mpr ⟨cv461 hg, (fun _ h => absurd h List.not_mem_nil)⟩)
/-- LotBeliefsModel.together -/
def ct1331 : sxCt := (296, 3, (3, [(1, .ofNat 0, .ofNat 1023), (2, .ofNat 0, .ofNat 51)], [], [(0, .inl 78), (1, .inr (false, (1, .ofNat 0))), (2, .inr (false, (2, .ofNat 0)))], [], [(82, (0, .ofNat 1), .inr (false, (0, .ofNat 10)))], [], []), [(78, 1)], [
  (4, [(3, .negSucc 9223372036854775807, .ofNat 9223372036854775807)], [], [], [.inr (true, (3, .ofNat 0))], [(78, (0, .ofNat 0), .inr (false, (0, .ofNat 0))), (82, (0, .ofNat 1), .inr (false, (0, .ofNat 10)))], [], [])], [], 0, 0)
def cu1331 : List sxCu := []
set_option maxRecDepth 1000000 in
theorem cv1331 {gh : sxGh} (hg : sxGd sxKw gh) : sxCtV sxKw gh ct1331 := sxMeB_ok (cts := [ct461]) (cuts := cu1331) (sp := []) 129 (by decide +kernel) hg (by decide) (by decide) (List.forall_mem_cons.mpr ⟨cv461 hg, (fun _ h => absurd h List.not_mem_nil)⟩)
/-- LotBeliefsModel.together -/
def ct1332 : sxCt := (296, 3, (3, [(1, .ofNat 0, .ofNat 511), (2, .ofNat 0, .ofNat 51)], [], [(0, .inl 78), (1, .inr (false, (1, .ofNat 0))), (2, .inr (false, (2, .ofNat 0)))], [], [(82, (0, .ofNat 1), .inr (false, (0, .ofNat 9)))], [], []), [(78, 1)], [
  (4, [(3, .negSucc 9223372036854775807, .ofNat 9223372036854775807)], [], [], [.inr (true, (3, .ofNat 0))], [(78, (0, .ofNat 0), .inr (false, (0, .ofNat 0))), (82, (0, .ofNat 1), .inr (false, (0, .ofNat 9)))], [], [])], [], 0, 0)
def cu1332 : List sxCu := []
set_option maxRecDepth 1000000 in
theorem cv1332 {gh : sxGh} (hg : sxGd sxKw gh) : sxCtV sxKw gh ct1332 := sxMeB_ok (cts := [ct988]) (cuts := cu1332) (sp := []) 129 (by decide +kernel) hg (by decide) (by decide) (List.forall_mem_cons.mpr ⟨cv988 hg, (fun _ h => absurd h List.not_mem_nil)⟩)
/-- LotBeliefsModel.together -/
def ct1333 : sxCt := (296, 3, (3, [(1, .ofNat 0, .ofNat 255), (2, .ofNat 0, .ofNat 51)], [], [(0, .inl 78), (1, .inr (false, (1, .ofNat 0))), (2, .inr (false, (2, .ofNat 0)))], [], [(82, (0, .ofNat 1), .inr (false, (0, .ofNat 8)))], [], []), [(78, 1)], [
  (4, [(3, .negSucc 9223372036854775807, .ofNat 9223372036854775807)], [], [], [.inr (true, (3, .ofNat 0))], [(78, (0, .ofNat 0), .inr (false, (0, .ofNat 0))), (82, (0, .ofNat 1), .inr (false, (0, .ofNat 8)))], [], [])], [], 0, 0)
def cu1333 : List sxCu := []
set_option maxRecDepth 1000000 in
theorem cv1333 {gh : sxGh} (hg : sxGd sxKw gh) : sxCtV sxKw gh ct1333 := sxMeB_ok (cts := [ct991]) (cuts := cu1333) (sp := []) 129 (by decide +kernel) hg (by decide) (by decide) (List.forall_mem_cons.mpr ⟨cv991 hg, (fun _ h => absurd h List.not_mem_nil)⟩)
/-- LotBeliefsModel.together -/
def ct1334 : sxCt := (296, 3, (3, [(1, .ofNat 0, .ofNat 127), (2, .ofNat 0, .ofNat 51)], [], [(0, .inl 78), (1, .inr (false, (1, .ofNat 0))), (2, .inr (false, (2, .ofNat 0)))], [], [(82, (0, .ofNat 1), .inr (false, (0, .ofNat 7)))], [], []), [(78, 1)], [
  (4, [(3, .negSucc 9223372036854775807, .ofNat 9223372036854775807)], [], [], [.inr (true, (3, .ofNat 0))], [(78, (0, .ofNat 0), .inr (false, (0, .ofNat 0))), (82, (0, .ofNat 1), .inr (false, (0, .ofNat 7)))], [], [])], [], 0, 0)
def cu1334 : List sxCu := []
set_option maxRecDepth 1000000 in
theorem cv1334 {gh : sxGh} (hg : sxGd sxKw gh) : sxCtV sxKw gh ct1334 := sxMeB_ok (cts := [ct994]) (cuts := cu1334) (sp := []) 129 (by decide +kernel) hg (by decide) (by decide) (List.forall_mem_cons.mpr ⟨cv994 hg, (fun _ h => absurd h List.not_mem_nil)⟩)
/-- LotBeliefsModel.together -/
def ct1335 : sxCt := (296, 3, (3, [(1, .ofNat 0, .ofNat 63), (2, .ofNat 0, .ofNat 51)], [], [(0, .inl 78), (1, .inr (false, (1, .ofNat 0))), (2, .inr (false, (2, .ofNat 0)))], [], [(82, (0, .ofNat 1), .inr (false, (0, .ofNat 6)))], [], []), [(78, 1)], [
  (4, [(3, .negSucc 9223372036854775807, .ofNat 9223372036854775807)], [], [], [.inr (true, (3, .ofNat 0))], [(78, (0, .ofNat 0), .inr (false, (0, .ofNat 0))), (82, (0, .ofNat 1), .inr (false, (0, .ofNat 6)))], [], [])], [], 0, 0)
def cu1335 : List sxCu := []
set_option maxRecDepth 1000000 in
theorem cv1335 {gh : sxGh} (hg : sxGd sxKw gh) : sxCtV sxKw gh ct1335 := sxMeB_ok (cts := [ct997]) (cuts := cu1335) (sp := []) 129 (by decide +kernel) hg (by decide) (by decide) (List.forall_mem_cons.mpr ⟨cv997 hg, (fun _ h => absurd h List.not_mem_nil)⟩)
/-- LotBeliefsModel.together -/
def ct1336 : sxCt := (296, 3, (3, [(1, .ofNat 0, .ofNat 31), (2, .ofNat 0, .ofNat 51)], [], [(0, .inl 78), (1, .inr (false, (1, .ofNat 0))), (2, .inr (false, (2, .ofNat 0)))], [], [(82, (0, .ofNat 1), .inr (false, (0, .ofNat 5)))], [], []), [(78, 1)], [
  (4, [(3, .negSucc 9223372036854775807, .ofNat 9223372036854775807)], [], [], [.inr (true, (3, .ofNat 0))], [(78, (0, .ofNat 0), .inr (false, (0, .ofNat 0))), (82, (0, .ofNat 1), .inr (false, (0, .ofNat 5)))], [], [])], [], 0, 0)
def cu1336 : List sxCu := []
set_option maxRecDepth 1000000 in
theorem cv1336 {gh : sxGh} (hg : sxGd sxKw gh) : sxCtV sxKw gh ct1336 := sxMeB_ok (cts := [ct1000]) (cuts := cu1336) (sp := []) 129 (by decide +kernel) hg (by decide) (by decide) (List.forall_mem_cons.mpr ⟨cv1000 hg, (fun _ h => absurd h List.not_mem_nil)⟩)
/-- LotBeliefsModel.together -/
def ct1337 : sxCt := (296, 3, (3, [(1, .ofNat 0, .ofNat 15), (2, .ofNat 0, .ofNat 51)], [], [(0, .inl 78), (1, .inr (false, (1, .ofNat 0))), (2, .inr (false, (2, .ofNat 0)))], [], [(82, (0, .ofNat 1), .inr (false, (0, .ofNat 4)))], [], []), [(78, 1)], [
  (4, [(3, .negSucc 9223372036854775807, .ofNat 9223372036854775807)], [], [], [.inr (true, (3, .ofNat 0))], [(78, (0, .ofNat 0), .inr (false, (0, .ofNat 0))), (82, (0, .ofNat 1), .inr (false, (0, .ofNat 4)))], [], [])], [], 0, 0)
def cu1337 : List sxCu := []
set_option maxRecDepth 1000000 in
theorem cv1337 {gh : sxGh} (hg : sxGd sxKw gh) : sxCtV sxKw gh ct1337 := sxMeB_ok (cts := [ct1003]) (cuts := cu1337) (sp := []) 129 (by decide +kernel) hg (by decide) (by decide) (List.forall_mem_cons.mpr ⟨cv1003 hg, (fun _ h => absurd h List.not_mem_nil)⟩)
/-- LotBeliefsModel.together -/
def ct1338 : sxCt := (296, 3, (3, [(1, .ofNat 0, .ofNat 7), (2, .ofNat 0, .ofNat 51)], [], [(0, .inl 78), (1, .inr (false, (1, .ofNat 0))), (2, .inr (false, (2, .ofNat 0)))], [], [(82, (0, .ofNat 1), .inr (false, (0, .ofNat 3)))], [], []), [(78, 1)], [
  (4, [(3, .negSucc 9223372036854775807, .ofNat 9223372036854775807)], [], [], [.inr (true, (3, .ofNat 0))], [(78, (0, .ofNat 0), .inr (false, (0, .ofNat 0))), (82, (0, .ofNat 1), .inr (false, (0, .ofNat 3)))], [], [])], [], 0, 0)
def cu1338 : List sxCu := []
set_option maxRecDepth 1000000 in
theorem cv1338 {gh : sxGh} (hg : sxGd sxKw gh) : sxCtV sxKw gh ct1338 := sxMeB_ok (cts := [ct1006]) (cuts := cu1338) (sp := []) 129 (by decide +kernel) hg (by decide) (by decide) (List.forall_mem_cons.mpr ⟨cv1006 hg, (fun _ h => absurd h List.not_mem_nil)⟩)
/-- LotBeliefsModel.together -/
def ct1339 : sxCt := (296, 3, (3, [(1, .ofNat 0, .ofNat 3), (2, .ofNat 0, .ofNat 51)], [], [(0, .inl 78), (1, .inr (false, (1, .ofNat 0))), (2, .inr (false, (2, .ofNat 0)))], [], [(82, (0, .ofNat 1), .inr (false, (0, .ofNat 2)))], [], []), [(78, 1)], [
  (4, [(3, .negSucc 9223372036854775807, .ofNat 9223372036854775807)], [], [], [.inr (true, (3, .ofNat 0))], [(78, (0, .ofNat 0), .inr (false, (0, .ofNat 0))), (82, (0, .ofNat 1), .inr (false, (0, .ofNat 2)))], [], [])], [], 0, 0)
def cu1339 : List sxCu := []
set_option maxRecDepth 1000000 in
theorem cv1339 {gh : sxGh} (hg : sxGd sxKw gh) : sxCtV sxKw gh ct1339 := sxMeB_ok (cts := [ct1009]) (cuts := cu1339) (sp := []) 129 (by decide +kernel) hg (by decide) (by decide) (List.forall_mem_cons.mpr ⟨cv1009 hg, (fun _ h => absurd h List.not_mem_nil)⟩)
/-- LotBeliefsModel.together -/
def ct1340 : sxCt := (296, 3, (3, [(1, .ofNat 0, .ofNat 1), (2, .ofNat 0, .ofNat 51)], [], [(0, .inl 78), (1, .inr (false, (1, .ofNat 0))), (2, .inr (false, (2, .ofNat 0)))], [], [(82, (0, .ofNat 1), .inr (false, (0, .ofNat 1)))], [], []), [(78, 1)], [
  (4, [(3, .negSucc 9223372036854775807, .ofNat 9223372036854775807)], [], [], [.inr (true, (3, .ofNat 0))], [(78, (0, .ofNat 0), .inr (false, (0, .ofNat 0))), (82, (0, .ofNat 1), .inr (false, (0, .ofNat 1)))], [], [])], [], 0, 0)
def cu1340 : List sxCu := []
set_option maxRecDepth 1000000 in
theorem cv1340 {gh : sxGh} (hg : sxGd sxKw gh) : sxCtV sxKw gh ct1340 := sxMeB_ok (cts := [ct1012]) (cuts := cu1340) (sp := []) 129 (by decide +kernel) hg (by decide) (by decide) (List.forall_mem_cons.mpr ⟨cv1012 hg, (fun _ h => absurd h List.not_mem_nil)⟩)
/-- LotBeliefsModel.together -/
def ct1341 : sxCt := (296, 3, (3, [(1, .ofNat 0, .ofNat 0), (2, .ofNat 0, .ofNat 51)], [], [(0, .inl 78), (1, .inr (false, (1, .ofNat 0))), (2, .inr (false, (2, .ofNat 0)))], [], [(82, (0, .ofNat 1), .inr (false, (0, .ofNat 0)))], [], []), [(78, 1)], [
  (4, [(3, .negSucc 9223372036854775807, .ofNat 9223372036854775807)], [], [], [.inr (true, (3, .ofNat 0))], [(78, (0, .ofNat 0), .inr (false, (0, .ofNat 0))), (82, (0, .ofNat 1), .inr (false, (0, .ofNat 0)))], [], [])], [], 0, 0)
def cu1341 : List sxCu := []
set_option maxRecDepth 1000000 in
theorem cv1341 {gh : sxGh} (hg : sxGd sxKw gh) : sxCtV sxKw gh ct1341 := sxMeB_ok (cts := [ct1012]) (cuts := cu1341) (sp := []) 129 (by decide +kernel) hg (by decide) (by decide) (List.forall_mem_cons.mpr ⟨cv1012 hg, (fun _ h => absurd h List.not_mem_nil)⟩)
/-- LotBeliefs.following -/
def ct1342 : sxCt := (154, 2, (3, [(1, .ofNat 0, .ofNat 4095), (2, .ofNat 0, .ofNat 51)], [], [(0, .inl 0), (1, .inr (false, (1, .ofNat 0))), (2, .inr (false, (2, .ofNat 0)))], [], [(0, (0, .ofNat 2), .inl 3), (3, (0, .ofNat 2), .inr (false, (0, .ofNat 12)))], [], []), [], [
  (4, [(3, .ofNat 0, .ofNat 4095)], [], [], [.inr (false, (3, .ofNat 0))], [(0, (0, .ofNat 2), .inl 3), (3, (0, .ofNat 2), .inr (false, (0, .ofNat 12)))], [], [])], [], 0, 0)
def cu1342 : List sxCu := [
  (33, (6, [(1, .ofNat 0, .ofNat 4095), (2, .ofNat 0, .ofNat 51), (3, .negSucc 9223372036854775807, .ofNat 9223372036854775807), (4, .ofNat 0, .ofNat 4095), (5, .ofNat 0, .ofNat 12)], [], [(0, .inl 0), (1, .inr (false, (1, .ofNat 0))), (2, .inr (false, (2, .ofNat 0))), (3, .inr (true, (3, .ofNat 0))), (5, .inr (false, (4, .ofNat 0))), (6, .inr (false, (5, .ofNat 0)))], [], [(0, (0, .ofNat 2), .inl 3), (3, (0, .ofNat 2), .inr (false, (0, .ofNat 12)))], [], []), ((0, 5, .ofNat 12), (0, 0, .ofNat 0), (0, 0, .ofNat 0)), 0, 0)]
set_option maxRecDepth 1000000 in
theorem cv1342 {gh : sxGh} (hg : sxGd sxKw gh) : sxCtV sxKw gh ct1342 := sxMeB_ok (cts := [ct460]) (cuts := cu1342) (sp := []) 137 (by decide +kernel) hg (by decide) (by decide) (List.forall_mem_cons.mpr ⟨cv460 hg, (fun _ h => absurd h List.not_mem_nil)⟩)
/-- LotBeliefsModel.followingOf -/
def ct1343 : sxCt := (297, 0, (2, [(1, .negSucc 9223372036854775807, .ofNat 9223372036854775807)], [], [(0, .inl 78), (1, .inr (true, (1, .ofNat 0)))], [], [], [], []), [], [
  (3, [(2, .ofNat 0, .ofNat 4095)], [], [], [.inr (false, (2, .ofNat 0))], [], [], [])], [], 0, 0)
def cu1343 : List sxCu := [
  (5, (4, [(1, .negSucc 9223372036854775807, .ofNat 9223372036854775807), (2, .ofNat 0, .ofNat 4095), (3, .ofNat 0, .ofNat 12)], [], [(0, .inl 78), (1, .inr (true, (1, .ofNat 0))), (3, .inr (false, (2, .ofNat 0))), (4, .inr (false, (3, .ofNat 0)))], [], [], [], []), ((0, 3, .ofNat 12), (0, 0, .ofNat 0), (0, 0, .ofNat 0)), 0, 0)]
set_option maxRecDepth 1000000 in
theorem cv1343 {gh : sxGh} (hg : sxGd sxKw gh) : sxCtV sxKw gh ct1343 := sxMeB_ok (cts := []) (cuts := cu1343) (sp := []) 104 (by decide +kernel) hg (by decide) (by decide) (fun _ h => absurd h List.not_mem_nil)
/-- LotBeliefs.following -/
def ct1344 : sxCt := (154, 2, (3, [(1, .ofNat 0, .ofNat 2047), (2, .ofNat 0, .ofNat 51)], [], [(0, .inl 0), (1, .inr (false, (1, .ofNat 0))), (2, .inr (false, (2, .ofNat 0)))], [], [(0, (0, .ofNat 2), .inl 3), (3, (0, .ofNat 2), .inr (false, (0, .ofNat 11)))], [], []), [], [
  (4, [(3, .ofNat 0, .ofNat 4095)], [], [], [.inr (false, (3, .ofNat 0))], [(0, (0, .ofNat 2), .inl 3), (3, (0, .ofNat 2), .inr (false, (0, .ofNat 11)))], [], [])], [], 0, 0)
def cu1344 : List sxCu := [
  (33, (6, [(1, .ofNat 0, .ofNat 2047), (2, .ofNat 0, .ofNat 51), (3, .negSucc 9223372036854775807, .ofNat 9223372036854775807), (4, .ofNat 0, .ofNat 4095), (5, .ofNat 0, .ofNat 11)], [], [(0, .inl 0), (1, .inr (false, (1, .ofNat 0))), (2, .inr (false, (2, .ofNat 0))), (3, .inr (true, (3, .ofNat 0))), (5, .inr (false, (4, .ofNat 0))), (6, .inr (false, (5, .ofNat 0)))], [], [(0, (0, .ofNat 2), .inl 3), (3, (0, .ofNat 2), .inr (false, (0, .ofNat 11)))], [], []), ((0, 5, .ofNat 11), (0, 0, .ofNat 0), (0, 0, .ofNat 0)), 0, 0)]
set_option maxRecDepth 1000000 in
theorem cv1344 {gh : sxGh} (hg : sxGd sxKw gh) : sxCtV sxKw gh ct1344 := sxMeB_ok (cts := [ct460]) (cuts := cu1344) (sp := []) 137 (by decide +kernel) hg (by decide) (by decide) (List.forall_mem_cons.mpr ⟨cv460 hg, (fun _ h => absurd h List.not_mem_nil)⟩)
/-- LotBeliefs.following -/
def ct1345 : sxCt := (154, 2, (3, [(1, .ofNat 0, .ofNat 1023), (2, .ofNat 0, .ofNat 51)], [], [(0, .inl 0), (1, .inr (false, (1, .ofNat 0))), (2, .inr (false, (2, .ofNat 0)))], [], [(0, (0, .ofNat 2), .inl 3), (3, (0, .ofNat 2), .inr (false, (0, .ofNat 10)))], [], []), [], [
  (4, [(3, .ofNat 0, .ofNat 4095)], [], [], [.inr (false, (3, .ofNat 0))], [(0, (0, .ofNat 2), .inl 3), (3, (0, .ofNat 2), .inr (false, (0, .ofNat 10)))], [], [])], [], 0, 0)
def cu1345 : List sxCu := [
  (33, (6, [(1, .ofNat 0, .ofNat 1023), (2, .ofNat 0, .ofNat 51), (3, .negSucc 9223372036854775807, .ofNat 9223372036854775807), (4, .ofNat 0, .ofNat 4095), (5, .ofNat 0, .ofNat 10)], [], [(0, .inl 0), (1, .inr (false, (1, .ofNat 0))), (2, .inr (false, (2, .ofNat 0))), (3, .inr (true, (3, .ofNat 0))), (5, .inr (false, (4, .ofNat 0))), (6, .inr (false, (5, .ofNat 0)))], [], [(0, (0, .ofNat 2), .inl 3), (3, (0, .ofNat 2), .inr (false, (0, .ofNat 10)))], [], []), ((0, 5, .ofNat 10), (0, 0, .ofNat 0), (0, 0, .ofNat 0)), 0, 0)]
set_option maxRecDepth 1000000 in
theorem cv1345 {gh : sxGh} (hg : sxGd sxKw gh) : sxCtV sxKw gh ct1345 := sxMeB_ok (cts := [ct460]) (cuts := cu1345) (sp := []) 137 (by decide +kernel) hg (by decide) (by decide) (List.forall_mem_cons.mpr ⟨cv460 hg, (fun _ h => absurd h List.not_mem_nil)⟩)
/-- LotBeliefs.following -/
def ct1346 : sxCt := (154, 2, (3, [(1, .ofNat 0, .ofNat 511), (2, .ofNat 0, .ofNat 51)], [], [(0, .inl 0), (1, .inr (false, (1, .ofNat 0))), (2, .inr (false, (2, .ofNat 0)))], [], [(0, (0, .ofNat 2), .inl 3), (3, (0, .ofNat 2), .inr (false, (0, .ofNat 9)))], [], []), [], [
  (4, [(3, .ofNat 0, .ofNat 4095)], [], [], [.inr (false, (3, .ofNat 0))], [(0, (0, .ofNat 2), .inl 3), (3, (0, .ofNat 2), .inr (false, (0, .ofNat 9)))], [], [])], [], 0, 0)
def cu1346 : List sxCu := [
  (33, (6, [(1, .ofNat 0, .ofNat 511), (2, .ofNat 0, .ofNat 51), (3, .negSucc 9223372036854775807, .ofNat 9223372036854775807), (4, .ofNat 0, .ofNat 4095), (5, .ofNat 0, .ofNat 9)], [], [(0, .inl 0), (1, .inr (false, (1, .ofNat 0))), (2, .inr (false, (2, .ofNat 0))), (3, .inr (true, (3, .ofNat 0))), (5, .inr (false, (4, .ofNat 0))), (6, .inr (false, (5, .ofNat 0)))], [], [(0, (0, .ofNat 2), .inl 3), (3, (0, .ofNat 2), .inr (false, (0, .ofNat 9)))], [], []), ((0, 5, .ofNat 9), (0, 0, .ofNat 0), (0, 0, .ofNat 0)), 0, 0)]
set_option maxRecDepth 1000000 in
theorem cv1346 {gh : sxGh} (hg : sxGd sxKw gh) : sxCtV sxKw gh ct1346 := sxMeB_ok (cts := [ct987]) (cuts := cu1346) (sp := []) 137 (by decide +kernel) hg (by decide) (by decide) (List.forall_mem_cons.mpr ⟨cv987 hg, (fun _ h => absurd h List.not_mem_nil)⟩)
/-- LotBeliefs.following -/
def ct1347 : sxCt := (154, 2, (3, [(1, .ofNat 0, .ofNat 255), (2, .ofNat 0, .ofNat 51)], [], [(0, .inl 0), (1, .inr (false, (1, .ofNat 0))), (2, .inr (false, (2, .ofNat 0)))], [], [(0, (0, .ofNat 2), .inl 3), (3, (0, .ofNat 2), .inr (false, (0, .ofNat 8)))], [], []), [], [
  (4, [(3, .ofNat 0, .ofNat 255)], [], [], [.inr (false, (3, .ofNat 0))], [(0, (0, .ofNat 2), .inl 3), (3, (0, .ofNat 2), .inr (false, (0, .ofNat 8)))], [], [])], [], 0, 0)
def cu1347 : List sxCu := [
  (33, (6, [(1, .ofNat 0, .ofNat 255), (2, .ofNat 0, .ofNat 51), (3, .negSucc 9223372036854775807, .ofNat 9223372036854775807), (4, .ofNat 0, .ofNat 255), (5, .ofNat 0, .ofNat 8)], [], [(0, .inl 0), (1, .inr (false, (1, .ofNat 0))), (2, .inr (false, (2, .ofNat 0))), (3, .inr (true, (3, .ofNat 0))), (5, .inr (false, (4, .ofNat 0))), (6, .inr (false, (5, .ofNat 0)))], [], [(0, (0, .ofNat 2), .inl 3), (3, (0, .ofNat 2), .inr (false, (0, .ofNat 8)))], [], []), ((0, 5, .ofNat 8), (0, 0, .ofNat 0), (0, 0, .ofNat 0)), 0, 0)]
set_option maxRecDepth 1000000 in
theorem cv1347 {gh : sxGh} (hg : sxGd sxKw gh) : sxCtV sxKw gh ct1347 := sxMeB_ok (cts := [ct990]) (cuts := cu1347) (sp := []) 137 (by decide +kernel) hg (by decide) (by decide) (List.forall_mem_cons.mpr ⟨cv990 hg, (fun _ h => absurd h List.not_mem_nil)⟩)
/-- LotBeliefs.following -/
def ct1348 : sxCt := (154, 2, (3, [(1, .ofNat 0, .ofNat 127), (2, .ofNat 0, .ofNat 51)], [], [(0, .inl 0), (1, .inr (false, (1, .ofNat 0))), (2, .inr (false, (2, .ofNat 0)))], [], [(0, (0, .ofNat 2), .inl 3), (3, (0, .ofNat 2), .inr (false, (0, .ofNat 7)))], [], []), [], [
  (4, [(3, .ofNat 0, .ofNat 127)], [], [], [.inr (false, (3, .ofNat 0))], [(0, (0, .ofNat 2), .inl 3), (3, (0, .ofNat 2), .inr (false, (0, .ofNat 7)))], [], [])], [], 0, 0)
def cu1348 : List sxCu := [
  (33, (6, [(1, .ofNat 0, .ofNat 127), (2, .ofNat 0, .ofNat 51), (3, .negSucc 9223372036854775807, .ofNat 9223372036854775807), (4, .ofNat 0, .ofNat 127), (5, .ofNat 0, .ofNat 7)], [], [(0, .inl 0), (1, .inr (false, (1, .ofNat 0))), (2, .inr (false, (2, .ofNat 0))), (3, .inr (true, (3, .ofNat 0))), (5, .inr (false, (4, .ofNat 0))), (6, .inr (false, (5, .ofNat 0)))], [], [(0, (0, .ofNat 2), .inl 3), (3, (0, .ofNat 2), .inr (false, (0, .ofNat 7)))], [], []), ((0, 5, .ofNat 7), (0, 0, .ofNat 0), (0, 0, .ofNat 0)), 0, 0)]
set_option maxRecDepth 1000000 in
theorem cv1348 {gh : sxGh} (hg : sxGd sxKw gh) : sxCtV sxKw gh ct1348 := sxMeB_ok (cts := [ct993]) (cuts := cu1348) (sp := []) 137 (by decide +kernel) hg (by decide) (by decide) (List.forall_mem_cons.mpr ⟨cv993 hg, (fun _ h => absurd h List.not_mem_nil)⟩)
/-- LotBeliefs.following -/
def ct1349 : sxCt := (154, 2, (3, [(1, .ofNat 0, .ofNat 63), (2, .ofNat 0, .ofNat 51)], [], [(0, .inl 0), (1, .inr (false, (1, .ofNat 0))), (2, .inr (false, (2, .ofNat 0)))], [], [(0, (0, .ofNat 2), .inl 3), (3, (0, .ofNat 2), .inr (false, (0, .ofNat 6)))], [], []), [], [
  (4, [(3, .ofNat 0, .ofNat 63)], [], [], [.inr (false, (3, .ofNat 0))], [(0, (0, .ofNat 2), .inl 3), (3, (0, .ofNat 2), .inr (false, (0, .ofNat 6)))], [], [])], [], 0, 0)
def cu1349 : List sxCu := [
  (33, (6, [(1, .ofNat 0, .ofNat 63), (2, .ofNat 0, .ofNat 51), (3, .negSucc 9223372036854775807, .ofNat 9223372036854775807), (4, .ofNat 0, .ofNat 63), (5, .ofNat 0, .ofNat 6)], [], [(0, .inl 0), (1, .inr (false, (1, .ofNat 0))), (2, .inr (false, (2, .ofNat 0))), (3, .inr (true, (3, .ofNat 0))), (5, .inr (false, (4, .ofNat 0))), (6, .inr (false, (5, .ofNat 0)))], [], [(0, (0, .ofNat 2), .inl 3), (3, (0, .ofNat 2), .inr (false, (0, .ofNat 6)))], [], []), ((0, 5, .ofNat 6), (0, 0, .ofNat 0), (0, 0, .ofNat 0)), 0, 0)]
set_option maxRecDepth 1000000 in
theorem cv1349 {gh : sxGh} (hg : sxGd sxKw gh) : sxCtV sxKw gh ct1349 := sxMeB_ok (cts := [ct996]) (cuts := cu1349) (sp := []) 137 (by decide +kernel) hg (by decide) (by decide) (List.forall_mem_cons.mpr ⟨cv996 hg, (fun _ h => absurd h List.not_mem_nil)⟩)
/-- LotBeliefs.following -/
def ct1350 : sxCt := (154, 2, (3, [(1, .ofNat 0, .ofNat 31), (2, .ofNat 0, .ofNat 51)], [], [(0, .inl 0), (1, .inr (false, (1, .ofNat 0))), (2, .inr (false, (2, .ofNat 0)))], [], [(0, (0, .ofNat 2), .inl 3), (3, (0, .ofNat 2), .inr (false, (0, .ofNat 5)))], [], []), [], [
  (4, [(3, .ofNat 0, .ofNat 63)], [], [], [.inr (false, (3, .ofNat 0))], [(0, (0, .ofNat 2), .inl 3), (3, (0, .ofNat 2), .inr (false, (0, .ofNat 5)))], [], [])], [], 0, 0)
def cu1350 : List sxCu := [
  (33, (6, [(1, .ofNat 0, .ofNat 31), (2, .ofNat 0, .ofNat 51), (3, .negSucc 9223372036854775807, .ofNat 9223372036854775807), (4, .ofNat 0, .ofNat 63), (5, .ofNat 0, .ofNat 5)], [], [(0, .inl 0), (1, .inr (false, (1, .ofNat 0))), (2, .inr (false, (2, .ofNat 0))), (3, .inr (true, (3, .ofNat 0))), (5, .inr (false, (4, .ofNat 0))), (6, .inr (false, (5, .ofNat 0)))], [], [(0, (0, .ofNat 2), .inl 3), (3, (0, .ofNat 2), .inr (false, (0, .ofNat 5)))], [], []), ((0, 5, .ofNat 5), (0, 0, .ofNat 0), (0, 0, .ofNat 0)), 0, 0)]
set_option maxRecDepth 1000000 in
theorem cv1350 {gh : sxGh} (hg : sxGd sxKw gh) : sxCtV sxKw gh ct1350 := sxMeB_ok (cts := [ct999]) (cuts := cu1350) (sp := []) 137 (by decide +kernel) hg (by decide) (by decide) (List.forall_mem_cons.mpr ⟨cv999 hg, (fun _ h => absurd h List.not_mem_nil)⟩)
/-- LotBeliefs.following -/
def ct1351 : sxCt := (154, 2, (3, [(1, .ofNat 0, .ofNat 15), (2, .ofNat 0, .ofNat 51)], [], [(0, .inl 0), (1, .inr (false, (1, .ofNat 0))), (2, .inr (false, (2, .ofNat 0)))], [], [(0, (0, .ofNat 2), .inl 3), (3, (0, .ofNat 2), .inr (false, (0, .ofNat 4)))], [], []), [], [
  (4, [(3, .ofNat 0, .ofNat 15)], [], [], [.inr (false, (3, .ofNat 0))], [(0, (0, .ofNat 2), .inl 3), (3, (0, .ofNat 2), .inr (false, (0, .ofNat 4)))], [], [])], [], 0, 0)
def cu1351 : List sxCu := [
  (33, (6, [(1, .ofNat 0, .ofNat 15), (2, .ofNat 0, .ofNat 51), (3, .negSucc 9223372036854775807, .ofNat 9223372036854775807), (4, .ofNat 0, .ofNat 15), (5, .ofNat 0, .ofNat 4)], [], [(0, .inl 0), (1, .inr (false, (1, .ofNat 0))), (2, .inr (false, (2, .ofNat 0))), (3, .inr (true, (3, .ofNat 0))), (5, .inr (false, (4, .ofNat 0))), (6, .inr (false, (5, .ofNat 0)))], [], [(0, (0, .ofNat 2), .inl 3), (3, (0, .ofNat 2), .inr (false, (0, .ofNat 4)))], [], []), ((0, 5, .ofNat 4), (0, 0, .ofNat 0), (0, 0, .ofNat 0)), 0, 0)]
set_option maxRecDepth 1000000 in
theorem cv1351 {gh : sxGh} (hg : sxGd sxKw gh) : sxCtV sxKw gh ct1351 := sxMeB_ok (cts := [ct1002]) (cuts := cu1351) (sp := []) 137 (by decide +kernel) hg (by decide) (by decide) (List.forall_mem_cons.mpr ⟨cv1002 hg, (fun _ h => absurd h List.not_mem_nil)⟩)
/-- LotBeliefs.following -/
def ct1352 : sxCt := (154, 2, (3, [(1, .ofNat 0, .ofNat 7), (2, .ofNat 0, .ofNat 51)], [], [(0, .inl 0), (1, .inr (false, (1, .ofNat 0))), (2, .inr (false, (2, .ofNat 0)))], [], [(0, (0, .ofNat 2), .inl 3), (3, (0, .ofNat 2), .inr (false, (0, .ofNat 3)))], [], []), [], [
  (4, [(3, .ofNat 0, .ofNat 7)], [], [], [.inr (false, (3, .ofNat 0))], [(0, (0, .ofNat 2), .inl 3), (3, (0, .ofNat 2), .inr (false, (0, .ofNat 3)))], [], [])], [], 0, 0)
def cu1352 : List sxCu := [
  (33, (6, [(1, .ofNat 0, .ofNat 7), (2, .ofNat 0, .ofNat 51), (3, .negSucc 9223372036854775807, .ofNat 9223372036854775807), (4, .ofNat 0, .ofNat 7), (5, .ofNat 0, .ofNat 3)], [], [(0, .inl 0), (1, .inr (false, (1, .ofNat 0))), (2, .inr (false, (2, .ofNat 0))), (3, .inr (true, (3, .ofNat 0))), (5, .inr (false, (4, .ofNat 0))), (6, .inr (false, (5, .ofNat 0)))], [], [(0, (0, .ofNat 2), .inl 3), (3, (0, .ofNat 2), .inr (false, (0, .ofNat 3)))], [], []), ((0, 5, .ofNat 3), (0, 0, .ofNat 0), (0, 0, .ofNat 0)), 0, 0)]
set_option maxRecDepth 1000000 in
theorem cv1352 {gh : sxGh} (hg : sxGd sxKw gh) : sxCtV sxKw gh ct1352 := sxMeB_ok (cts := [ct1005]) (cuts := cu1352) (sp := []) 137 (by decide +kernel) hg (by decide) (by decide) (List.forall_mem_cons.mpr ⟨cv1005 hg, (fun _ h => absurd h List.not_mem_nil)⟩)
/-- LotBeliefs.following -/
def ct1353 : sxCt := (154, 2, (3, [(1, .ofNat 0, .ofNat 3), (2, .ofNat 0, .ofNat 51)], [], [(0, .inl 0), (1, .inr (false, (1, .ofNat 0))), (2, .inr (false, (2, .ofNat 0)))], [], [(0, (0, .ofNat 2), .inl 3), (3, (0, .ofNat 2), .inr (false, (0, .ofNat 2)))], [], []), [], [
  (4, [(3, .ofNat 0, .ofNat 3)], [], [], [.inr (false, (3, .ofNat 0))], [(0, (0, .ofNat 2), .inl 3), (3, (0, .ofNat 2), .inr (false, (0, .ofNat 2)))], [], [])], [], 0, 0)
def cu1353 : List sxCu := [
  (33, (6, [(1, .ofNat 0, .ofNat 3), (2, .ofNat 0, .ofNat 51), (3, .negSucc 9223372036854775807, .ofNat 9223372036854775807), (4, .ofNat 0, .ofNat 3), (5, .ofNat 0, .ofNat 2)], [], [(0, .inl 0), (1, .inr (false, (1, .ofNat 0))), (2, .inr (false, (2, .ofNat 0))), (3, .inr (true, (3, .ofNat 0))), (5, .inr (false, (4, .ofNat 0))), (6, .inr (false, (5, .ofNat 0)))], [], [(0, (0, .ofNat 2), .inl 3), (3, (0, .ofNat 2), .inr (false, (0, .ofNat 2)))], [], []), ((0, 5, .ofNat 2), (0, 0, .ofNat 0), (0, 0, .ofNat 0)), 0, 0)]
set_option maxRecDepth 1000000 in
theorem cv1353 {gh : sxGh} (hg : sxGd sxKw gh) : sxCtV sxKw gh ct1353 := sxMeB_ok (cts := [ct1008]) (cuts := cu1353) (sp := []) 137 (by decide +kernel) hg (by decide) (by decide) (List.forall_mem_cons.mpr ⟨cv1008 hg, (fun _ h => absurd h List.not_mem_nil)⟩)
/-- LotBeliefs.following -/
def ct1354 : sxCt := (154, 2, (3, [(1, .ofNat 0, .ofNat 1), (2, .ofNat 0, .ofNat 51)], [], [(0, .inl 0), (1, .inr (false, (1, .ofNat 0))), (2, .inr (false, (2, .ofNat 0)))], [], [(0, (0, .ofNat 2), .inl 3), (3, (0, .ofNat 2), .inr (false, (0, .ofNat 1)))], [], []), [], [
  (4, [(3, .ofNat 0, .ofNat 1)], [], [], [.inr (false, (3, .ofNat 0))], [(0, (0, .ofNat 2), .inl 3), (3, (0, .ofNat 2), .inr (false, (0, .ofNat 1)))], [], [])], [], 0, 0)
def cu1354 : List sxCu := [
  (33, (6, [(1, .ofNat 0, .ofNat 1), (2, .ofNat 0, .ofNat 51), (3, .negSucc 9223372036854775807, .ofNat 9223372036854775807), (4, .ofNat 0, .ofNat 1), (5, .ofNat 0, .ofNat 1)], [(4, 5, .ofNat 0)], [(0, .inl 0), (1, .inr (false, (1, .ofNat 0))), (2, .inr (false, (2, .ofNat 0))), (3, .inr (true, (3, .ofNat 0))), (5, .inr (false, (4, .ofNat 0))), (6, .inr (false, (5, .ofNat 0)))], [], [(0, (0, .ofNat 2), .inl 3), (3, (0, .ofNat 2), .inr (false, (0, .ofNat 1)))], [], []), ((0, 5, .ofNat 1), (0, 0, .ofNat 0), (0, 0, .ofNat 0)), 0, 0)]
set_option maxRecDepth 1000000 in
theorem cv1354 {gh : sxGh} (hg : sxGd sxKw gh) : sxCtV sxKw gh ct1354 := sxMeB_ok (cts := [ct1011]) (cuts := cu1354) (sp := []) 137 (by decide +kernel) hg (by decide) (by decide) (List.forall_mem_cons.mpr ⟨cv1011 hg, (fun _ h => absurd h List.not_mem_nil)⟩)
/-- LotBeliefs.following -/
def ct1355 : sxCt := (154, 2, (3, [(1, .ofNat 0, .ofNat 0), (2, .ofNat 0, .ofNat 51)], [], [(0, .inl 0), (1, .inr (false, (1, .ofNat 0))), (2, .inr (false, (2, .ofNat 0)))], [], [(0, (0, .ofNat 2), .inl 3), (3, (0, .ofNat 2), .inr (false, (0, .ofNat 0)))], [], []), [], [
  (3, [], [], [], [.inr (false, (0, .ofNat 0))], [(0, (0, .ofNat 2), .inl 3), (3, (0, .ofNat 2), .inr (false, (0, .ofNat 0)))], [], [])], [], 0, 0)
def cu1355 : List sxCu := [
  (33, (4, [(1, .ofNat 0, .ofNat 0), (2, .ofNat 0, .ofNat 51), (3, .negSucc 9223372036854775807, .ofNat 9223372036854775807)], [], [(0, .inl 0), (1, .inr (false, (1, .ofNat 0))), (2, .inr (false, (2, .ofNat 0))), (3, .inr (true, (3, .ofNat 0))), (5, .inr (false, (0, .ofNat 0))), (6, .inr (false, (0, .ofNat 0)))], [], [(0, (0, .ofNat 2), .inl 3), (3, (0, .ofNat 2), .inr (false, (0, .ofNat 0)))], [], []), ((0, 1, .ofNat 0), (0, 0, .ofNat 0), (0, 0, .ofNat 0)), 0, 0)]
set_option maxRecDepth 1000000 in
theorem cv1355 {gh : sxGh} (hg : sxGd sxKw gh) : sxCtV sxKw gh ct1355 := sxMeB_ok (cts := [ct1011]) (cuts := cu1355) (sp := []) 111 (by decide +kernel) hg (by decide) (by decide) (List.forall_mem_cons.mpr ⟨cv1011 hg, (fun _ h => absurd h List.not_mem_nil)⟩)
/-- LotBeliefs.eldest -/
def ct1356 : sxCt := (155, 6, (2, [(1, .ofNat 0, .ofNat 51)], [], [(0, .inl 0), (1, .inr (false, (1, .ofNat 0)))], [], [], [], []), [(21, 0), (22, 0), (25, 0), (26, 0), (32, 1), (32, 2), (32, 3), (32, 4), (32, 9), (32, 11), (32, 12), (33000037, 0)], [
  (7, [(2, .negSucc 0, .ofNat 16), (3, .ofNat 0, .ofNat 4), (4, .ofNat 0, .ofNat 63), (5, .ofNat 0, .ofNat 4095), (6, .negSucc 2147483647, .ofNat 2147483647)], [], [], [.inr (false, (2, .ofNat 0))], [(32, (0, .ofNat 2), .inr (false, (3, .ofNat 0))), (32, (0, .ofNat 3), .inr (false, (4, .ofNat 0))), (32, (0, .ofNat 8), .inr (false, (5, .ofNat 0))), (32, (0, .ofNat 11), .inr (false, (6, .ofNat 0)))], [], [])], [], 0, 0)
def cu1356 : List sxCu := [
  (20, (8, [(1, .ofNat 0, .ofNat 51), (2, .ofNat 0, .ofNat 4095), (3, .ofNat 0, .ofNat 12), (4, .ofNat 0, .ofNat 4), (5, .ofNat 0, .ofNat 63), (6, .ofNat 0, .ofNat 4095), (7, .negSucc 2147483647, .ofNat 2147483647)], [], [(0, .inl 0), (1, .inr (false, (1, .ofNat 0))), (2, .inr (false, (2, .ofNat 0))), (3, .inr (false, (3, .ofNat 0)))], [], [(0, (0, .ofNat 7), .inl 27), (0, (0, .ofNat 12), .inl 32), (27, (0, .ofNat 0), .inl 28), (27, (0, .ofNat 1), .inr (false, (4, .ofNat 0))), (27, (0, .ofNat 2), .inr (false, (5, .ofNat 0))), (32, (0, .ofNat 2), .inr (false, (4, .ofNat 0))), (32, (0, .ofNat 3), .inr (false, (5, .ofNat 0))), (32, (0, .ofNat 8), .inr (false, (6, .ofNat 0))), (32, (0, .ofNat 11), .inr (false, (7, .ofNat 0)))], [], []), ((0, 3, .ofNat 12), (0, 0, .ofNat 0), (0, 0, .ofNat 0)), 0, 0)]
set_option maxRecDepth 1000000 in
theorem cv1356 {gh : sxGh} (hg : sxGd sxKw gh) : sxCtV sxKw gh ct1356 := sxMeB_ok (cts := [ct370, ct371]) (cuts := cu1356) (sp := []) 287 (by decide +kernel) hg (by decide) (by decide) (List.forall_mem_cons.mpr ⟨cv370 hg, (List.forall_mem_cons.mpr ⟨cv371 hg, (fun _ h => absurd h List.not_mem_nil)⟩)⟩)
/-- LotBeliefs.quarrels -/
def ct1357 : sxCt := (156, 2, (2, [(1, .ofNat 0, .ofNat 51)], [], [(0, .inl 0), (1, .inr (false, (1, .ofNat 0)))], [], [], [], []), [], [
  (3, [(2, .negSucc 2147483647, .ofNat 2147483647)], [], [], [.inr (false, (2, .ofNat 0))], [], [], [])], [], 0, 0)
def cu1357 : List sxCu := [
  (25, (5, [(1, .ofNat 0, .ofNat 51), (2, .negSucc 2147483647, .ofNat 2147483647), (3, .ofNat 0, .ofNat 11), (4, .ofNat 1, .ofNat 12)], [(3, 4, .negSucc 0)], [(0, .inl 0), (1, .inr (false, (1, .ofNat 0))), (2, .inr (false, (2, .ofNat 0))), (3, .inr (false, (3, .ofNat 0))), (4, .inr (false, (4, .ofNat 0)))], [], [], [], []), ((0, 3, .ofNat 12), (0, 4, .ofNat 12), (0, 0, .ofNat 0)), 0, 0), 
  (9, (4, [(1, .ofNat 0, .ofNat 51), (2, .negSucc 2147483647, .ofNat 2147483647), (3, .ofNat 0, .ofNat 12)], [], [(0, .inl 0), (1, .inr (false, (1, .ofNat 0))), (2, .inr (false, (2, .ofNat 0))), (3, .inr (false, (3, .ofNat 0)))], [], [], [], []), ((0, 3, .ofNat 12), (0, 0, .ofNat 12), (0, 0, .ofNat 0)), 0, 0)]
set_option maxRecDepth 1000000 in
theorem cv1357 {gh : sxGh} (hg : sxGd sxKw gh) : sxCtV sxKw gh ct1357 := sxMeB_ok (cts := []) (cuts := cu1357) (sp := []) 192 (by decide +kernel) hg (by decide) (by decide) (fun _ h => absurd h List.not_mem_nil)
/-- LotBeliefsModel.quarrels -/
def ct1358 : sxCt := (307, 2, (2, [(1, .ofNat 0, .ofNat 51)], [], [(0, .inl 78), (1, .inr (false, (1, .ofNat 0)))], [], [], [], []), [(78, 1)], [
  (3, [(2, .negSucc 2147483647, .ofNat 2147483647)], [], [], [.inr (false, (2, .ofNat 0))], [(78, (0, .ofNat 0), .inr (false, (0, .ofNat 0)))], [], [])], [], 0, 0)
def cu1358 : List sxCu := [
  (32, (4, [(1, .ofNat 0, .ofNat 51), (2, .negSucc 2147483647, .ofNat 2147483647), (3, .ofNat 0, .ofNat 12)], [], [(0, .inl 78), (1, .inr (false, (1, .ofNat 0))), (2, .inr (false, (2, .ofNat 0))), (3, .inr (false, (3, .ofNat 0)))], [], [(78, (0, .ofNat 0), .inr (false, (0, .ofNat 0)))], [], []), ((0, 3, .ofNat 12), (0, 0, .ofNat 12), (0, 0, .ofNat 0)), 0, 0), 
  (47, (6, [(1, .ofNat 0, .ofNat 51), (2, .negSucc 2147483647, .ofNat 2147483647), (3, .ofNat 0, .ofNat 11), (4, .ofNat 1, .ofNat 12), (5, .ofNat 1, .ofNat 12)], [(3, 4, .negSucc 0), (3, 5, .negSucc 0)], [(0, .inl 78), (1, .inr (false, (1, .ofNat 0))), (2, .inr (false, (2, .ofNat 0))), (3, .inr (false, (3, .ofNat 0))), (4, .inr (false, (4, .ofNat 0)))], [], [(78, (0, .ofNat 0), .inr (false, (0, .ofNat 0))), (78, (0, .ofNat 12), .inl 82), (82, (0, .ofNat 1), .inr (false, (5, .ofNat 0)))], [], []), ((0, 3, .ofNat 12), (0, 4, .ofNat 12), (0, 0, .ofNat 0)), 0, 0)]
set_option maxRecDepth 1000000 in
theorem cv1358 {gh : sxGh} (hg : sxGd sxKw gh) : sxCtV sxKw gh ct1358 := sxMeB_ok (cts := []) (cuts := cu1358) (sp := []) 168 (by decide +kernel) hg (by decide) (by decide) (fun _ h => absurd h List.not_mem_nil)
/-- LotBeliefs.Subsets.allFriends -/
def ct1386 : sxCt := (67, 0, (3, [(1, .ofNat 0, .ofNat 4095), (2, .ofNat 0, .ofNat 12)], [], [(0, .inl 45), (1, .inr (false, (1, .ofNat 0))), (2, .inr (false, (2, .ofNat 0)))], [], [], [], []), [], [
  (3, [(2, .ofNat 1, .ofNat 12)], [], [], [.inr (false, (0, .ofNat 0))], [], [], []), 
  (3, [], [], [], [.inr (false, (0, .ofNat 1))], [], [], [])], [], 0, 0)
def cu1386 : List sxCu := [
  (2, (4, [(1, .ofNat 0, .ofNat 4095), (2, .ofNat 0, .ofNat 12), (3, .ofNat 0, .ofNat 12)], [], [(0, .inl 45), (1, .inr (false, (1, .ofNat 0))), (2, .inr (false, (2, .ofNat 0))), (3, .inr (false, (3, .ofNat 0)))], [], [], [], []), ((0, 3, .ofNat 12), (0, 0, .ofNat 0), (0, 0, .ofNat 0)), 0, 0)]
set_option maxRecDepth 1000000 in
theorem cv1386 {gh : sxGh} (hg : sxGd sxKw gh) : sxCtV sxKw gh ct1386 := sxMeB_ok (cts := []) (cuts := cu1386) (sp := []) 88 (by decide +kernel) hg (by decide) (by decide) (fun _ h => absurd h List.not_mem_nil)
/-- LotBeliefs.Subsets.peaceful -/
def ct1387 : sxCt := (66, 1, (2, [(1, .ofNat 0, .ofNat 51)], [], [(0, .inl 45), (1, .inl 3), (2, .inr (false, (1, .ofNat 0)))], [], [], [], []), [(47, 0)], [
  (3, [(2, .ofNat 0, .ofNat 4095)], [], [], [.inr (false, (2, .ofNat 0))], [], [], [])], [], 0, 0)
def cu1387 : List sxCu := [
  (2, (3, [(1, .ofNat 0, .ofNat 51), (2, .ofNat 0, .ofNat 12)], [], [(0, .inl 45), (1, .inl 3), (2, .inr (false, (1, .ofNat 0))), (3, .inr (false, (2, .ofNat 0)))], [], [], [], []), ((0, 2, .ofNat 4108), (0, 0, .ofNat 13), (0, 0, .ofNat 0)), 0, 0), 
  (20, (5, [(1, .ofNat 0, .ofNat 51), (2, .ofNat 0, .ofNat 11), (3, .ofNat 0, .ofNat 12), (4, .ofNat 1, .ofNat 12)], [(2, 4, .negSucc 0)], [(0, .inl 45), (1, .inl 3), (2, .inr (false, (1, .ofNat 0))), (3, .inr (false, (2, .ofNat 0))), (4, .inr (false, (3, .ofNat 0)))], [], [(3, (0, .ofNat 2), .inr (false, (4, .ofNat 0))), (45, (0, .ofNat 3), .inl 47)], [], []), ((0, 2, .ofNat 4108), (0, 3, .ofNat 12), (0, 0, .ofNat 0)), 0, 0), 
  (73, (6, [(1, .ofNat 0, .ofNat 51), (2, .ofNat 0, .ofNat 4095), (3, .ofNat 0, .ofNat 63), (4, .ofNat 1, .ofNat 4096), (5, .ofNat 0, .ofNat 12)], [(2, 4, .negSucc 0)], [(0, .inl 45), (1, .inl 3), (2, .inr (false, (1, .ofNat 0))), (3, .inr (false, (2, .ofNat 0))), (4, .inr (false, (3, .ofNat 0))), (5, .inr (false, (4, .ofNat 0)))], [], [(3, (0, .ofNat 2), .inr (false, (5, .ofNat 0)))], [], []), ((0, 4, .ofNat 4096), (0, 0, .ofNat 0), (0, 0, .ofNat 0)), 0, 0)]
set_option maxRecDepth 1000000 in
theorem cv1387 {gh : sxGh} (hg : sxGd sxKw gh) : sxCtV sxKw gh ct1387 := sxMeB_ok (cts := [ct1386, ct462]) (cuts := cu1387) (sp := []) 178 (by decide +kernel) hg (by decide) (by decide) (List.forall_mem_cons.mpr ⟨cv1386 hg, (List.forall_mem_cons.mpr ⟨cv462 hg, (fun _ h => absurd h List.not_mem_nil)⟩)⟩)
/-- LotBeliefsModel.peace -/
def ct1388 : sxCt := (308, 2, (2, [(1, .ofNat 0, .ofNat 51)], [], [(0, .inl 78), (1, .inr (false, (1, .ofNat 0)))], [], [], [], []), [(78, 1)], [
  (3, [(2, .ofNat 0, .ofNat 4095)], [], [], [.inr (false, (2, .ofNat 0))], [(78, (0, .ofNat 0), .inr (false, (0, .ofNat 0)))], [], [])], [], 0, 0)
def cu1388 : List sxCu := [
  (32, (4, [(1, .ofNat 0, .ofNat 51), (2, .ofNat 0, .ofNat 4095), (3, .ofNat 0, .ofNat 4096)], [(2, 3, .ofNat 0)], [(0, .inl 78), (1, .inr (false, (1, .ofNat 0))), (2, .inr (false, (2, .ofNat 0))), (3, .inr (false, (3, .ofNat 0)))], [], [(78, (0, .ofNat 0), .inr (false, (0, .ofNat 0)))], [], []), ((0, 3, .ofNat 4096), (0, 0, .ofNat 13), (0, 0, .ofNat 0)), 0, 0), 
  (66, (7, [(1, .ofNat 0, .ofNat 51), (2, .ofNat 0, .ofNat 4095), (3, .ofNat 0, .ofNat 4095), (4, .ofNat 0, .ofNat 1), (5, .ofNat 0, .ofNat 12), (6, .ofNat 0, .ofNat 12)], [(2, 3, .ofNat 0), (5, 6, .ofNat 0)], [(0, .inl 78), (1, .inr (false, (1, .ofNat 0))), (2, .inr (false, (2, .ofNat 0))), (3, .inr (false, (3, .ofNat 0))), (4, .inr (false, (4, .ofNat 0))), (5, .inr (false, (5, .ofNat 0)))], [], [(78, (0, .ofNat 0), .inr (false, (0, .ofNat 0))), (78, (0, .ofNat 12), .inl 82), (82, (0, .ofNat 1), .inr (false, (6, .ofNat 0)))], [], []), ((0, 3, .ofNat 4096), (0, 5, .ofNat 12), (0, 0, .ofNat 13)), 0, 0), 
  (81, (8, [(1, .ofNat 0, .ofNat 51), (2, .ofNat 0, .ofNat 4095), (3, .ofNat 0, .ofNat 4095), (4, .ofNat 0, .ofNat 1), (5, .ofNat 0, .ofNat 11), (6, .ofNat 0, .ofNat 12), (7, .ofNat 1, .ofNat 12)], [(2, 3, .ofNat 0), (5, 6, .ofNat 0), (5, 7, .negSucc 0)], [(0, .inl 78), (1, .inr (false, (1, .ofNat 0))), (2, .inr (false, (2, .ofNat 0))), (3, .inr (false, (3, .ofNat 0))), (4, .inr (false, (4, .ofNat 0))), (5, .inr (false, (5, .ofNat 0))), (6, .inr (false, (6, .ofNat 0)))], [], [(78, (0, .ofNat 0), .inr (false, (0, .ofNat 0))), (78, (0, .ofNat 12), .inl 82), (82, (0, .ofNat 1), .inr (false, (7, .ofNat 0)))], [], []), ((0, 3, .ofNat 4096), (0, 5, .ofNat 12), (0, 6, .ofNat 12)), 0, 0)]
set_option maxRecDepth 1000000 in
theorem cv1388 {gh : sxGh} (hg : sxGd sxKw gh) : sxCtV sxKw gh ct1388 := sxMeB_ok (cts := [ct463]) (cuts := cu1388) (sp := []) 219 (by decide +kernel) hg (by decide) (by decide) (List.forall_mem_cons.mpr ⟨cv463 hg, (fun _ h => absurd h List.not_mem_nil)⟩)
/-- LotBeliefs.century -/
def ct1390 : sxCt := (148, 6, (5, [(1, .ofNat 0, .ofNat 11), (2, .negSucc 2147483647, .ofNat 2147483647), (3, .ofNat 1, .ofNat 60), (4, .ofNat 0, .ofNat 12)], [(1, 4, .negSucc 0)], [(0, .inl 0), (1, .inr (false, (1, .ofNat 0))), (2, .inr (false, (2, .ofNat 0))), (3, .inr (false, (3, .ofNat 0)))], [], [(0, (0, .ofNat 2), .inl 3), (3, (0, .ofNat 2), .inr (false, (4, .ofNat 0)))], [], []), [(21, 0), (22, 0), (25, 0), (26, 0), (31, 0), (32, 1), (32, 2), (32, 3), (32, 4), (32, 9), (32, 11), (32, 12), (33000037, 0)], [
  (6, [(5, .negSucc 2147483647, .ofNat 2147483647)], [], [], [.inr (false, (5, .ofNat 0))], [(0, (0, .ofNat 2), .inl 3), (3, (0, .ofNat 2), .inr (false, (4, .ofNat 0)))], [], [])], [], 0, 0)
def cu1390 : List sxCu := [
  (16, (7, [(1, .ofNat 0, .ofNat 11), (2, .negSucc 2147483647, .ofNat 2147483647), (3, .ofNat 1, .ofNat 60), (4, .ofNat 0, .ofNat 12), (5, .negSucc 2147483647, .ofNat 2147483647), (6, .ofNat 0, .ofNat 63)], [(1, 4, .negSucc 0)], [(0, .inl 0), (1, .inr (false, (1, .ofNat 0))), (2, .inr (false, (2, .ofNat 0))), (3, .inr (false, (3, .ofNat 0))), (4, .inr (false, (5, .ofNat 0))), (5, .inr (false, (6, .ofNat 0)))], [], [(0, (0, .ofNat 2), .inl 3), (3, (0, .ofNat 2), .inr (false, (4, .ofNat 0)))], [], []), ((0, 6, .ofNat 63), (0, 0, .ofNat 0), (0, 0, .ofNat 0)), 0, 0)]
set_option maxRecDepth 1000000 in
theorem cv1390 {gh : sxGh} (hg : sxGd sxKw gh) : sxCtV sxKw gh ct1390 := sxMeB_ok (cts := [ct468, ct1243]) (cuts := cu1390) (sp := []) 187 (by decide +kernel) hg (by decide) (by decide) (List.forall_mem_cons.mpr ⟨cv468 hg, (List.forall_mem_cons.mpr ⟨cv1243 hg, (fun _ h => absurd h List.not_mem_nil)⟩)⟩)
/-- LotBeliefs.known -/
def ct1392 : sxCt := (159, 2, (4, [(1, .ofNat 0, .ofNat 5), (2, .ofNat 0, .ofNat 51), (3, .ofNat 1, .ofNat 6)], [(1, 3, .negSucc 0)], [(0, .inl 0), (1, .inr (false, (1, .ofNat 0))), (2, .inr (false, (2, .ofNat 0)))], [], [(0, (0, .ofNat 2), .inl 3), (3, (0, .ofNat 0), .inr (false, (3, .ofNat 0)))], [], []), [], [
  (5, [(4, .negSucc 0, .ofNat 2)], [], [], [.inr (false, (4, .ofNat 0))], [(0, (0, .ofNat 2), .inl 3), (3, (0, .ofNat 0), .inr (false, (3, .ofNat 0)))], [], [])], [], 0, 0)
def cu1392 : List sxCu := []
set_option maxRecDepth 1000000 in
theorem cv1392 {gh : sxGh} (hg : sxGd sxKw gh) : sxCtV sxKw gh ct1392 := sxMeB_ok (cts := []) (cuts := cu1392) (sp := []) 464 (by decide +kernel) hg (by decide) (by decide) (fun _ h => absurd h List.not_mem_nil)
/-- LotBeliefsModel.known -/
def ct1393 : sxCt := (305, 2, (4, [(1, .ofNat 0, .ofNat 5), (2, .ofNat 0, .ofNat 51), (3, .ofNat 0, .ofNat 6)], [(1, 3, .negSucc 0)], [(0, .inl 78), (1, .inr (false, (1, .ofNat 0))), (2, .inr (false, (2, .ofNat 0)))], [], [(82, (0, .ofNat 0), .inr (false, (3, .ofNat 0)))], [], []), [(78, 1)], [
  (5, [(4, .negSucc 0, .ofNat 2)], [], [], [.inr (false, (4, .ofNat 0))], [(78, (0, .ofNat 0), .inr (false, (0, .ofNat 0))), (82, (0, .ofNat 0), .inr (false, (3, .ofNat 0)))], [], [])], [], 0, 0)
def cu1393 : List sxCu := []
set_option maxRecDepth 1000000 in
theorem cv1393 {gh : sxGh} (hg : sxGd sxKw gh) : sxCtV sxKw gh ct1393 := sxMeB_ok (cts := [ct1130]) (cuts := cu1393) (sp := []) 199 (by decide +kernel) hg (by decide) (by decide) (List.forall_mem_cons.mpr ⟨cv1130 hg, (fun _ h => absurd h List.not_mem_nil)⟩)
/-- LotBeliefs.Shortest.find -/
def ct1394 : sxCt := (54, 0, (3, [(1, .ofNat 0, .ofNat 255), (2, .ofNat 0, .ofNat 1)], [], [(0, .inl 48), (1, .inr (false, (1, .ofNat 0))), (2, .inr (false, (2, .ofNat 0)))], [], [], [], []), [(48, 5), (49, 0), (50, 0)], [
  (4, [(3, .ofNat 0, .ofNat 256)], [], [], [], [(48, (0, .ofNat 4), .inr (false, (3, .ofNat 0)))], [], [])], [], 0, 0)
def cu1394 : List sxCu := []
set_option maxRecDepth 1000000 in
theorem cv1394 {gh : sxGh} (hg : sxGd sxKw gh) : sxCtV sxKw gh ct1394 := sxMeB_ok (cts := []) (cuts := cu1394) (sp := []) 107 (by decide +kernel) hg (by decide) (by decide) (fun _ h => absurd h List.not_mem_nil)
/-- LotBeliefs.Shortest.find -/
def ct1395 : sxCt := (54, 0, (3, [(1, .ofNat 0, .ofNat 255), (2, .ofNat 2, .ofNat 64)], [], [(0, .inl 48), (1, .inr (false, (1, .ofNat 0))), (2, .inr (false, (2, .ofNat 0)))], [], [], [], []), [(48, 5), (49, 0), (50, 0)], [
  (4, [(3, .ofNat 0, .ofNat 256)], [], [], [], [(48, (0, .ofNat 4), .inr (false, (3, .ofNat 0)))], [], [])], [], 0, 0)
def cu1395 : List sxCu := []
set_option maxRecDepth 1000000 in
theorem cv1395 {gh : sxGh} (hg : sxGd sxKw gh) : sxCtV sxKw gh ct1395 := sxMeB_ok (cts := []) (cuts := cu1395) (sp := []) 107 (by decide +kernel) hg (by decide) (by decide) (fun _ h => absurd h List.not_mem_nil)
/-- LotBeliefs.Shortest.negate -/
def ct1396 : sxCt := (55, 1, (3, [(1, .ofNat 2, .ofNat 64), (2, .ofNat 0, .ofNat 255)], [], [(0, .inl 48), (1, .inr (false, (1, .ofNat 0))), (2, .inr (false, (2, .ofNat 0)))], [], [], [], []), [(48, 5), (49, 0), (50, 0)], [
  (3, [], [], [], [], [], [], [])], [], 0, 0)
def cu1396 : List sxCu := [
  (9, (4, [(1, .ofNat 2, .ofNat 64), (2, .ofNat 0, .ofNat 255), (3, .ofNat 0, .ofNat 256)], [], [(0, .inl 48), (1, .inr (false, (1, .ofNat 0))), (2, .inr (false, (2, .ofNat 0))), (3, .inr (false, (3, .ofNat 0)))], [], [(48, (0, .ofNat 3), .inl 51)], [], []), ((0, 3, .ofNat 256), (0, 0, .ofNat 0), (0, 0, .ofNat 0)), 0, 0)]
set_option maxRecDepth 1000000 in
theorem cv1396 {gh : sxGh} (hg : sxGd sxKw gh) : sxCtV sxKw gh ct1396 := sxMeB_ok (cts := [ct1395]) (cuts := cu1396) (sp := []) 88 (by decide +kernel) hg (by decide) (by decide) (List.forall_mem_cons.mpr ⟨cv1395 hg, (fun _ h => absurd h List.not_mem_nil)⟩)
/-- LotBeliefs.Shortest.join -/
def ct1545 : sxCt := (56, 1, (4, [(1, .ofNat 0, .ofNat 1), (2, .ofNat 1, .ofNat 64), (3, .ofNat 2, .ofNat 64)], [], [(0, .inl 48), (1, .inr (false, (1, .ofNat 0))), (2, .inr (false, (2, .ofNat 0))), (3, .inr (false, (3, .ofNat 0)))], [], [], [], []), [(48, 5), (49, 0), (50, 0)], [
  (4, [], [], [], [], [], [], [])], [], 0, 0)
def cu1545 : List sxCu := [
  (29, (6, [(1, .ofNat 0, .ofNat 1), (2, .ofNat 1, .ofNat 64), (3, .ofNat 2, .ofNat 64), (4, .ofNat 0, .ofNat 255), (5, .ofNat 0, .ofNat 256)], [], [(0, .inl 48), (1, .inr (false, (1, .ofNat 0))), (2, .inr (false, (2, .ofNat 0))), (3, .inr (false, (3, .ofNat 0))), (4, .inr (false, (4, .ofNat 0))), (5, .inr (false, (5, .ofNat 0)))], [], [(48, (0, .ofNat 3), .inl 51)], [], []), ((0, 4, .ofNat 256), (0, 5, .ofNat 256), (0, 0, .ofNat 0)), 0, 0), 
  (8, (5, [(1, .ofNat 0, .ofNat 1), (2, .ofNat 1, .ofNat 64), (3, .ofNat 2, .ofNat 64), (4, .ofNat 0, .ofNat 256)], [], [(0, .inl 48), (1, .inr (false, (1, .ofNat 0))), (2, .inr (false, (2, .ofNat 0))), (3, .inr (false, (3, .ofNat 0))), (4, .inr (false, (4, .ofNat 0)))], [], [(48, (0, .ofNat 3), .inl 51)], [], []), ((0, 4, .ofNat 256), (0, 0, .ofNat 257), (0, 0, .ofNat 0)), 0, 0)]
set_option maxRecDepth 1000000 in
theorem cv1545 {gh : sxGh} (hg : sxGd sxKw gh) : sxCtV sxKw gh ct1545 := sxMeB_ok (cts := [ct1395]) (cuts := cu1545) (sp := []) 117 (by decide +kernel) hg (by decide) (by decide) (List.forall_mem_cons.mpr ⟨cv1395 hg, (fun _ h => absurd h List.not_mem_nil)⟩)
/-- LotBeliefs.Shortest.join -/
def ct1547 : sxCt := (56, 1, (4, [(1, .ofNat 0, .ofNat 3), (2, .ofNat 0, .ofNat 60), (3, .ofNat 2, .ofNat 64)], [], [(0, .inl 48), (1, .inr (false, (1, .ofNat 0))), (2, .inr (false, (2, .ofNat 0))), (3, .inr (false, (3, .ofNat 0)))], [], [], [], []), [(48, 5), (49, 0), (50, 0)], [
  (4, [], [], [], [], [], [], [])], [], 0, 0)
def cu1547 : List sxCu := [
  (29, (6, [(1, .ofNat 0, .ofNat 3), (2, .ofNat 0, .ofNat 60), (3, .ofNat 2, .ofNat 64), (4, .ofNat 0, .ofNat 255), (5, .ofNat 0, .ofNat 256)], [], [(0, .inl 48), (1, .inr (false, (1, .ofNat 0))), (2, .inr (false, (2, .ofNat 0))), (3, .inr (false, (3, .ofNat 0))), (4, .inr (false, (4, .ofNat 0))), (5, .inr (false, (5, .ofNat 0)))], [], [(48, (0, .ofNat 3), .inl 51)], [], []), ((0, 4, .ofNat 256), (0, 5, .ofNat 256), (0, 0, .ofNat 0)), 0, 0), 
  (8, (5, [(1, .ofNat 0, .ofNat 3), (2, .ofNat 0, .ofNat 60), (3, .ofNat 2, .ofNat 64), (4, .ofNat 0, .ofNat 256)], [], [(0, .inl 48), (1, .inr (false, (1, .ofNat 0))), (2, .inr (false, (2, .ofNat 0))), (3, .inr (false, (3, .ofNat 0))), (4, .inr (false, (4, .ofNat 0)))], [], [(48, (0, .ofNat 3), .inl 51)], [], []), ((0, 4, .ofNat 256), (0, 0, .ofNat 257), (0, 0, .ofNat 0)), 0, 0)]
set_option maxRecDepth 1000000 in
theorem cv1547 {gh : sxGh} (hg : sxGd sxKw gh) : sxCtV sxKw gh ct1547 := sxMeB_ok (cts := [ct1395]) (cuts := cu1547) (sp := []) 117 (by decide +kernel) hg (by decide) (by decide) (List.forall_mem_cons.mpr ⟨cv1395 hg, (fun _ h => absurd h List.not_mem_nil)⟩)
/-- LotBeliefs.Shortest.join -/
def ct1548 : sxCt := (56, 1, (4, [(1, .ofNat 0, .ofNat 4), (2, .ofNat 0, .ofNat 60), (3, .ofNat 2, .ofNat 64)], [], [(0, .inl 48), (1, .inr (false, (1, .ofNat 0))), (2, .inr (false, (2, .ofNat 0))), (3, .inr (false, (3, .ofNat 0)))], [], [], [], []), [(48, 5), (49, 0), (50, 0)], [
  (4, [], [], [], [], [], [], [])], [], 0, 0)
def cu1548 : List sxCu := [
  (29, (6, [(1, .ofNat 0, .ofNat 4), (2, .ofNat 0, .ofNat 60), (3, .ofNat 2, .ofNat 64), (4, .ofNat 0, .ofNat 255), (5, .ofNat 0, .ofNat 256)], [], [(0, .inl 48), (1, .inr (false, (1, .ofNat 0))), (2, .inr (false, (2, .ofNat 0))), (3, .inr (false, (3, .ofNat 0))), (4, .inr (false, (4, .ofNat 0))), (5, .inr (false, (5, .ofNat 0)))], [], [(48, (0, .ofNat 3), .inl 51)], [], []), ((0, 4, .ofNat 256), (0, 5, .ofNat 256), (0, 0, .ofNat 0)), 0, 0), 
  (8, (5, [(1, .ofNat 0, .ofNat 4), (2, .ofNat 0, .ofNat 60), (3, .ofNat 2, .ofNat 64), (4, .ofNat 0, .ofNat 256)], [], [(0, .inl 48), (1, .inr (false, (1, .ofNat 0))), (2, .inr (false, (2, .ofNat 0))), (3, .inr (false, (3, .ofNat 0))), (4, .inr (false, (4, .ofNat 0)))], [], [(48, (0, .ofNat 3), .inl 51)], [], []), ((0, 4, .ofNat 256), (0, 0, .ofNat 257), (0, 0, .ofNat 0)), 0, 0)]
set_option maxRecDepth 1000000 in
theorem cv1548 {gh : sxGh} (hg : sxGd sxKw gh) : sxCtV sxKw gh ct1548 := sxMeB_ok (cts := [ct1395]) (cuts := cu1548) (sp := []) 117 (by decide +kernel) hg (by decide) (by decide) (List.forall_mem_cons.mpr ⟨cv1395 hg, (fun _ h => absurd h List.not_mem_nil)⟩)
/-- LotBeliefs.Shortest.join -/
def ct1549 : sxCt := (56, 1, (4, [(1, .ofNat 0, .ofNat 5), (2, .ofNat 0, .ofNat 60), (3, .ofNat 2, .ofNat 64)], [], [(0, .inl 48), (1, .inr (false, (1, .ofNat 0))), (2, .inr (false, (2, .ofNat 0))), (3, .inr (false, (3, .ofNat 0)))], [], [], [], []), [(48, 5), (49, 0), (50, 0)], [
  (4, [], [], [], [], [], [], [])], [], 0, 0)
def cu1549 : List sxCu := [
  (29, (6, [(1, .ofNat 0, .ofNat 5), (2, .ofNat 0, .ofNat 60), (3, .ofNat 2, .ofNat 64), (4, .ofNat 0, .ofNat 255), (5, .ofNat 0, .ofNat 256)], [], [(0, .inl 48), (1, .inr (false, (1, .ofNat 0))), (2, .inr (false, (2, .ofNat 0))), (3, .inr (false, (3, .ofNat 0))), (4, .inr (false, (4, .ofNat 0))), (5, .inr (false, (5, .ofNat 0)))], [], [(48, (0, .ofNat 3), .inl 51)], [], []), ((0, 4, .ofNat 256), (0, 5, .ofNat 256), (0, 0, .ofNat 0)), 0, 0), 
  (8, (5, [(1, .ofNat 0, .ofNat 5), (2, .ofNat 0, .ofNat 60), (3, .ofNat 2, .ofNat 64), (4, .ofNat 0, .ofNat 256)], [], [(0, .inl 48), (1, .inr (false, (1, .ofNat 0))), (2, .inr (false, (2, .ofNat 0))), (3, .inr (false, (3, .ofNat 0))), (4, .inr (false, (4, .ofNat 0)))], [], [(48, (0, .ofNat 3), .inl 51)], [], []), ((0, 4, .ofNat 256), (0, 0, .ofNat 257), (0, 0, .ofNat 0)), 0, 0)]
set_option maxRecDepth 1000000 in
theorem cv1549 {gh : sxGh} (hg : sxGd sxKw gh) : sxCtV sxKw gh ct1549 := sxMeB_ok (cts := [ct1395]) (cuts := cu1549) (sp := []) 117 (by decide +kernel) hg (by decide) (by decide) (List.forall_mem_cons.mpr ⟨cv1395 hg, (fun _ h => absurd h List.not_mem_nil)⟩)
/-- LotBeliefs.Shortest.join -/
def ct1550 : sxCt := (56, 1, (4, [(1, .ofNat 0, .ofNat 6), (2, .ofNat 0, .ofNat 60), (3, .ofNat 2, .ofNat 64)], [], [(0, .inl 48), (1, .inr (false, (1, .ofNat 0))), (2, .inr (false, (2, .ofNat 0))), (3, .inr (false, (3, .ofNat 0)))], [], [], [], []), [(48, 5), (49, 0), (50, 0)], [
  (4, [], [], [], [], [], [], [])], [], 0, 0)
def cu1550 : List sxCu := [
  (29, (6, [(1, .ofNat 0, .ofNat 6), (2, .ofNat 0, .ofNat 60), (3, .ofNat 2, .ofNat 64), (4, .ofNat 0, .ofNat 255), (5, .ofNat 0, .ofNat 256)], [], [(0, .inl 48), (1, .inr (false, (1, .ofNat 0))), (2, .inr (false, (2, .ofNat 0))), (3, .inr (false, (3, .ofNat 0))), (4, .inr (false, (4, .ofNat 0))), (5, .inr (false, (5, .ofNat 0)))], [], [(48, (0, .ofNat 3), .inl 51)], [], []), ((0, 4, .ofNat 256), (0, 5, .ofNat 256), (0, 0, .ofNat 0)), 0, 0), 
  (8, (5, [(1, .ofNat 0, .ofNat 6), (2, .ofNat 0, .ofNat 60), (3, .ofNat 2, .ofNat 64), (4, .ofNat 0, .ofNat 256)], [], [(0, .inl 48), (1, .inr (false, (1, .ofNat 0))), (2, .inr (false, (2, .ofNat 0))), (3, .inr (false, (3, .ofNat 0))), (4, .inr (false, (4, .ofNat 0)))], [], [(48, (0, .ofNat 3), .inl 51)], [], []), ((0, 4, .ofNat 256), (0, 0, .ofNat 257), (0, 0, .ofNat 0)), 0, 0)]
set_option maxRecDepth 1000000 in
theorem cv1550 {gh : sxGh} (hg : sxGd sxKw gh) : sxCtV sxKw gh ct1550 := sxMeB_ok (cts := [ct1395]) (cuts := cu1550) (sp := []) 117 (by decide +kernel) hg (by decide) (by decide) (List.forall_mem_cons.mpr ⟨cv1395 hg, (fun _ h => absurd h List.not_mem_nil)⟩)
/-- LotBeliefs.Shortest.join -/
def ct1551 : sxCt := (56, 1, (4, [(1, .ofNat 0, .ofNat 7), (2, .ofNat 0, .ofNat 60), (3, .ofNat 2, .ofNat 64)], [], [(0, .inl 48), (1, .inr (false, (1, .ofNat 0))), (2, .inr (false, (2, .ofNat 0))), (3, .inr (false, (3, .ofNat 0)))], [], [], [], []), [(48, 5), (49, 0), (50, 0)], [
  (4, [], [], [], [], [], [], [])], [], 0, 0)
def cu1551 : List sxCu := [
  (29, (6, [(1, .ofNat 0, .ofNat 7), (2, .ofNat 0, .ofNat 60), (3, .ofNat 2, .ofNat 64), (4, .ofNat 0, .ofNat 255), (5, .ofNat 0, .ofNat 256)], [], [(0, .inl 48), (1, .inr (false, (1, .ofNat 0))), (2, .inr (false, (2, .ofNat 0))), (3, .inr (false, (3, .ofNat 0))), (4, .inr (false, (4, .ofNat 0))), (5, .inr (false, (5, .ofNat 0)))], [], [(48, (0, .ofNat 3), .inl 51)], [], []), ((0, 4, .ofNat 256), (0, 5, .ofNat 256), (0, 0, .ofNat 0)), 0, 0), 
  (8, (5, [(1, .ofNat 0, .ofNat 7), (2, .ofNat 0, .ofNat 60), (3, .ofNat 2, .ofNat 64), (4, .ofNat 0, .ofNat 256)], [], [(0, .inl 48), (1, .inr (false, (1, .ofNat 0))), (2, .inr (false, (2, .ofNat 0))), (3, .inr (false, (3, .ofNat 0))), (4, .inr (false, (4, .ofNat 0)))], [], [(48, (0, .ofNat 3), .inl 51)], [], []), ((0, 4, .ofNat 256), (0, 0, .ofNat 257), (0, 0, .ofNat 0)), 0, 0)]
set_option maxRecDepth 1000000 in
theorem cv1551 {gh : sxGh} (hg : sxGd sxKw gh) : sxCtV sxKw gh ct1551 := sxMeB_ok (cts := [ct1395]) (cuts := cu1551) (sp := []) 117 (by decide +kernel) hg (by decide) (by decide) (List.forall_mem_cons.mpr ⟨cv1395 hg, (fun _ h => absurd h List.not_mem_nil)⟩)
/-- LotBeliefs.Shortest.join -/
def ct1552 : sxCt := (56, 1, (4, [(1, .ofNat 0, .ofNat 9), (2, .ofNat 0, .ofNat 60), (3, .ofNat 2, .ofNat 64)], [], [(0, .inl 48), (1, .inr (false, (1, .ofNat 0))), (2, .inr (false, (2, .ofNat 0))), (3, .inr (false, (3, .ofNat 0)))], [], [], [], []), [(48, 5), (49, 0), (50, 0)], [
  (4, [], [], [], [], [], [], [])], [], 0, 0)
def cu1552 : List sxCu := [
  (29, (6, [(1, .ofNat 0, .ofNat 9), (2, .ofNat 0, .ofNat 60), (3, .ofNat 2, .ofNat 64), (4, .ofNat 0, .ofNat 255), (5, .ofNat 0, .ofNat 256)], [], [(0, .inl 48), (1, .inr (false, (1, .ofNat 0))), (2, .inr (false, (2, .ofNat 0))), (3, .inr (false, (3, .ofNat 0))), (4, .inr (false, (4, .ofNat 0))), (5, .inr (false, (5, .ofNat 0)))], [], [(48, (0, .ofNat 3), .inl 51)], [], []), ((0, 4, .ofNat 256), (0, 5, .ofNat 256), (0, 0, .ofNat 0)), 0, 0), 
  (8, (5, [(1, .ofNat 0, .ofNat 9), (2, .ofNat 0, .ofNat 60), (3, .ofNat 2, .ofNat 64), (4, .ofNat 0, .ofNat 256)], [], [(0, .inl 48), (1, .inr (false, (1, .ofNat 0))), (2, .inr (false, (2, .ofNat 0))), (3, .inr (false, (3, .ofNat 0))), (4, .inr (false, (4, .ofNat 0)))], [], [(48, (0, .ofNat 3), .inl 51)], [], []), ((0, 4, .ofNat 256), (0, 0, .ofNat 257), (0, 0, .ofNat 0)), 0, 0)]
set_option maxRecDepth 1000000 in
theorem cv1552 {gh : sxGh} (hg : sxGd sxKw gh) : sxCtV sxKw gh ct1552 := sxMeB_ok (cts := [ct1395]) (cuts := cu1552) (sp := []) 117 (by decide +kernel) hg (by decide) (by decide) (List.forall_mem_cons.mpr ⟨cv1395 hg, (fun _ h => absurd h List.not_mem_nil)⟩)
/-- LotBeliefs.Shortest.join -/
def ct1555 : sxCt := (56, 1, (4, [(1, .ofNat 0, .ofNat 12), (2, .ofNat 0, .ofNat 51), (3, .ofNat 2, .ofNat 64)], [], [(0, .inl 48), (1, .inr (false, (1, .ofNat 0))), (2, .inr (false, (2, .ofNat 0))), (3, .inr (false, (3, .ofNat 0)))], [], [], [], []), [(48, 5), (49, 0), (50, 0)], [
  (4, [], [], [], [], [], [], [])], [], 0, 0)
def cu1555 : List sxCu := [
  (29, (6, [(1, .ofNat 0, .ofNat 12), (2, .ofNat 0, .ofNat 51), (3, .ofNat 2, .ofNat 64), (4, .ofNat 0, .ofNat 255), (5, .ofNat 0, .ofNat 256)], [], [(0, .inl 48), (1, .inr (false, (1, .ofNat 0))), (2, .inr (false, (2, .ofNat 0))), (3, .inr (false, (3, .ofNat 0))), (4, .inr (false, (4, .ofNat 0))), (5, .inr (false, (5, .ofNat 0)))], [], [(48, (0, .ofNat 3), .inl 51)], [], []), ((0, 4, .ofNat 256), (0, 5, .ofNat 256), (0, 0, .ofNat 0)), 0, 0), 
  (8, (5, [(1, .ofNat 0, .ofNat 12), (2, .ofNat 0, .ofNat 51), (3, .ofNat 2, .ofNat 64), (4, .ofNat 0, .ofNat 256)], [], [(0, .inl 48), (1, .inr (false, (1, .ofNat 0))), (2, .inr (false, (2, .ofNat 0))), (3, .inr (false, (3, .ofNat 0))), (4, .inr (false, (4, .ofNat 0)))], [], [(48, (0, .ofNat 3), .inl 51)], [], []), ((0, 4, .ofNat 256), (0, 0, .ofNat 257), (0, 0, .ofNat 0)), 0, 0)]
set_option maxRecDepth 1000000 in
theorem cv1555 {gh : sxGh} (hg : sxGd sxKw gh) : sxCtV sxKw gh ct1555 := sxMeB_ok (cts := [ct1395]) (cuts := cu1555) (sp := []) 117 (by decide +kernel) hg (by decide) (by decide) (List.forall_mem_cons.mpr ⟨cv1395 hg, (fun _ h => absurd h List.not_mem_nil)⟩)
/-- LotBeliefs.Shortest.join -/
def ct1556 : sxCt := (56, 1, (4, [(1, .ofNat 0, .ofNat 15), (2, .ofNat 0, .ofNat 51), (3, .ofNat 2, .ofNat 64)], [], [(0, .inl 48), (1, .inr (false, (1, .ofNat 0))), (2, .inr (false, (2, .ofNat 0))), (3, .inr (false, (3, .ofNat 0)))], [], [], [], []), [(48, 5), (49, 0), (50, 0)], [
  (4, [], [], [], [], [], [], [])], [], 0, 0)
def cu1556 : List sxCu := [
  (29, (6, [(1, .ofNat 0, .ofNat 15), (2, .ofNat 0, .ofNat 51), (3, .ofNat 2, .ofNat 64), (4, .ofNat 0, .ofNat 255), (5, .ofNat 0, .ofNat 256)], [], [(0, .inl 48), (1, .inr (false, (1, .ofNat 0))), (2, .inr (false, (2, .ofNat 0))), (3, .inr (false, (3, .ofNat 0))), (4, .inr (false, (4, .ofNat 0))), (5, .inr (false, (5, .ofNat 0)))], [], [(48, (0, .ofNat 3), .inl 51)], [], []), ((0, 4, .ofNat 256), (0, 5, .ofNat 256), (0, 0, .ofNat 0)), 0, 0), 
  (8, (5, [(1, .ofNat 0, .ofNat 15), (2, .ofNat 0, .ofNat 51), (3, .ofNat 2, .ofNat 64), (4, .ofNat 0, .ofNat 256)], [], [(0, .inl 48), (1, .inr (false, (1, .ofNat 0))), (2, .inr (false, (2, .ofNat 0))), (3, .inr (false, (3, .ofNat 0))), (4, .inr (false, (4, .ofNat 0)))], [], [(48, (0, .ofNat 3), .inl 51)], [], []), ((0, 4, .ofNat 256), (0, 0, .ofNat 257), (0, 0, .ofNat 0)), 0, 0)]
set_option maxRecDepth 1000000 in
theorem cv1556 {gh : sxGh} (hg : sxGd sxKw gh) : sxCtV sxKw gh ct1556 := sxMeB_ok (cts := [ct1395]) (cuts := cu1556) (sp := []) 117 (by decide +kernel) hg (by decide) (by decide) (List.forall_mem_cons.mpr ⟨cv1395 hg, (fun _ h => absurd h List.not_mem_nil)⟩)
/-- LotBeliefs.Shortest.join -/
def ct1557 : sxCt := (56, 1, (4, [(1, .ofNat 0, .ofNat 16), (2, .ofNat 0, .ofNat 51), (3, .ofNat 2, .ofNat 64)], [], [(0, .inl 48), (1, .inr (false, (1, .ofNat 0))), (2, .inr (false, (2, .ofNat 0))), (3, .inr (false, (3, .ofNat 0)))], [], [], [], []), [(48, 5), (49, 0), (50, 0)], [
  (4, [], [], [], [], [], [], [])], [], 0, 0)
def cu1557 : List sxCu := [
  (29, (6, [(1, .ofNat 0, .ofNat 16), (2, .ofNat 0, .ofNat 51), (3, .ofNat 2, .ofNat 64), (4, .ofNat 0, .ofNat 255), (5, .ofNat 0, .ofNat 256)], [], [(0, .inl 48), (1, .inr (false, (1, .ofNat 0))), (2, .inr (false, (2, .ofNat 0))), (3, .inr (false, (3, .ofNat 0))), (4, .inr (false, (4, .ofNat 0))), (5, .inr (false, (5, .ofNat 0)))], [], [(48, (0, .ofNat 3), .inl 51)], [], []), ((0, 4, .ofNat 256), (0, 5, .ofNat 256), (0, 0, .ofNat 0)), 0, 0), 
  (8, (5, [(1, .ofNat 0, .ofNat 16), (2, .ofNat 0, .ofNat 51), (3, .ofNat 2, .ofNat 64), (4, .ofNat 0, .ofNat 256)], [], [(0, .inl 48), (1, .inr (false, (1, .ofNat 0))), (2, .inr (false, (2, .ofNat 0))), (3, .inr (false, (3, .ofNat 0))), (4, .inr (false, (4, .ofNat 0)))], [], [(48, (0, .ofNat 3), .inl 51)], [], []), ((0, 4, .ofNat 256), (0, 0, .ofNat 257), (0, 0, .ofNat 0)), 0, 0)]
set_option maxRecDepth 1000000 in
theorem cv1557 {gh : sxGh} (hg : sxGd sxKw gh) : sxCtV sxKw gh ct1557 := sxMeB_ok (cts := [ct1395]) (cuts := cu1557) (sp := []) 117 (by decide +kernel) hg (by decide) (by decide) (List.forall_mem_cons.mpr ⟨cv1395 hg, (fun _ h => absurd h List.not_mem_nil)⟩)
/-- LotBeliefs.Shortest.join -/
def ct1558 : sxCt := (56, 1, (4, [(1, .ofNat 0, .ofNat 17), (2, .ofNat 0, .ofNat 51), (3, .ofNat 2, .ofNat 64)], [], [(0, .inl 48), (1, .inr (false, (1, .ofNat 0))), (2, .inr (false, (2, .ofNat 0))), (3, .inr (false, (3, .ofNat 0)))], [], [], [], []), [(48, 5), (49, 0), (50, 0)], [
  (4, [], [], [], [], [], [], [])], [], 0, 0)
def cu1558 : List sxCu := [
  (29, (6, [(1, .ofNat 0, .ofNat 17), (2, .ofNat 0, .ofNat 51), (3, .ofNat 2, .ofNat 64), (4, .ofNat 0, .ofNat 255), (5, .ofNat 0, .ofNat 256)], [], [(0, .inl 48), (1, .inr (false, (1, .ofNat 0))), (2, .inr (false, (2, .ofNat 0))), (3, .inr (false, (3, .ofNat 0))), (4, .inr (false, (4, .ofNat 0))), (5, .inr (false, (5, .ofNat 0)))], [], [(48, (0, .ofNat 3), .inl 51)], [], []), ((0, 4, .ofNat 256), (0, 5, .ofNat 256), (0, 0, .ofNat 0)), 0, 0), 
  (8, (5, [(1, .ofNat 0, .ofNat 17), (2, .ofNat 0, .ofNat 51), (3, .ofNat 2, .ofNat 64), (4, .ofNat 0, .ofNat 256)], [], [(0, .inl 48), (1, .inr (false, (1, .ofNat 0))), (2, .inr (false, (2, .ofNat 0))), (3, .inr (false, (3, .ofNat 0))), (4, .inr (false, (4, .ofNat 0)))], [], [(48, (0, .ofNat 3), .inl 51)], [], []), ((0, 4, .ofNat 256), (0, 0, .ofNat 257), (0, 0, .ofNat 0)), 0, 0)]
set_option maxRecDepth 1000000 in
theorem cv1558 {gh : sxGh} (hg : sxGd sxKw gh) : sxCtV sxKw gh ct1558 := sxMeB_ok (cts := [ct1395]) (cuts := cu1558) (sp := []) 117 (by decide +kernel) hg (by decide) (by decide) (List.forall_mem_cons.mpr ⟨cv1395 hg, (fun _ h => absurd h List.not_mem_nil)⟩)
/-- LotBeliefs.Shortest.join -/
def ct1559 : sxCt := (56, 1, (4, [(1, .ofNat 0, .ofNat 39), (2, .ofNat 0, .ofNat 51), (3, .ofNat 2, .ofNat 64)], [], [(0, .inl 48), (1, .inr (false, (1, .ofNat 0))), (2, .inr (false, (2, .ofNat 0))), (3, .inr (false, (3, .ofNat 0)))], [], [], [], []), [(48, 5), (49, 0), (50, 0)], [
  (4, [], [], [], [], [], [], [])], [], 0, 0)
def cu1559 : List sxCu := [
  (29, (6, [(1, .ofNat 0, .ofNat 39), (2, .ofNat 0, .ofNat 51), (3, .ofNat 2, .ofNat 64), (4, .ofNat 0, .ofNat 255), (5, .ofNat 0, .ofNat 256)], [], [(0, .inl 48), (1, .inr (false, (1, .ofNat 0))), (2, .inr (false, (2, .ofNat 0))), (3, .inr (false, (3, .ofNat 0))), (4, .inr (false, (4, .ofNat 0))), (5, .inr (false, (5, .ofNat 0)))], [], [(48, (0, .ofNat 3), .inl 51)], [], []), ((0, 4, .ofNat 256), (0, 5, .ofNat 256), (0, 0, .ofNat 0)), 0, 0), 
  (8, (5, [(1, .ofNat 0, .ofNat 39), (2, .ofNat 0, .ofNat 51), (3, .ofNat 2, .ofNat 64), (4, .ofNat 0, .ofNat 256)], [], [(0, .inl 48), (1, .inr (false, (1, .ofNat 0))), (2, .inr (false, (2, .ofNat 0))), (3, .inr (false, (3, .ofNat 0))), (4, .inr (false, (4, .ofNat 0)))], [], [(48, (0, .ofNat 3), .inl 51)], [], []), ((0, 4, .ofNat 256), (0, 0, .ofNat 257), (0, 0, .ofNat 0)), 0, 0)]
set_option maxRecDepth 1000000 in
theorem cv1559 {gh : sxGh} (hg : sxGd sxKw gh) : sxCtV sxKw gh ct1559 := sxMeB_ok (cts := [ct1395]) (cuts := cu1559) (sp := []) 117 (by decide +kernel) hg (by decide) (by decide) (List.forall_mem_cons.mpr ⟨cv1395 hg, (fun _ h => absurd h List.not_mem_nil)⟩)
/-- LotBeliefs.Shortest.join -/
def ct1560 : sxCt := (56, 1, (4, [(1, .ofNat 0, .ofNat 39), (2, .ofNat 0, .ofNat 40), (3, .ofNat 2, .ofNat 64)], [], [(0, .inl 48), (1, .inr (false, (1, .ofNat 0))), (2, .inr (false, (2, .ofNat 0))), (3, .inr (false, (3, .ofNat 0)))], [], [], [], []), [(48, 5), (49, 0), (50, 0)], [
  (4, [], [], [], [], [], [], [])], [], 0, 0)
def cu1560 : List sxCu := [
  (29, (6, [(1, .ofNat 0, .ofNat 39), (2, .ofNat 0, .ofNat 40), (3, .ofNat 2, .ofNat 64), (4, .ofNat 0, .ofNat 255), (5, .ofNat 0, .ofNat 256)], [], [(0, .inl 48), (1, .inr (false, (1, .ofNat 0))), (2, .inr (false, (2, .ofNat 0))), (3, .inr (false, (3, .ofNat 0))), (4, .inr (false, (4, .ofNat 0))), (5, .inr (false, (5, .ofNat 0)))], [], [(48, (0, .ofNat 3), .inl 51)], [], []), ((0, 4, .ofNat 256), (0, 5, .ofNat 256), (0, 0, .ofNat 0)), 0, 0), 
  (8, (5, [(1, .ofNat 0, .ofNat 39), (2, .ofNat 0, .ofNat 40), (3, .ofNat 2, .ofNat 64), (4, .ofNat 0, .ofNat 256)], [], [(0, .inl 48), (1, .inr (false, (1, .ofNat 0))), (2, .inr (false, (2, .ofNat 0))), (3, .inr (false, (3, .ofNat 0))), (4, .inr (false, (4, .ofNat 0)))], [], [(48, (0, .ofNat 3), .inl 51)], [], []), ((0, 4, .ofNat 256), (0, 0, .ofNat 257), (0, 0, .ofNat 0)), 0, 0)]
set_option maxRecDepth 1000000 in
theorem cv1560 {gh : sxGh} (hg : sxGd sxKw gh) : sxCtV sxKw gh ct1560 := sxMeB_ok (cts := [ct1395]) (cuts := cu1560) (sp := []) 117 (by decide +kernel) hg (by decide) (by decide) (List.forall_mem_cons.mpr ⟨cv1395 hg, (fun _ h => absurd h List.not_mem_nil)⟩)
/-- LotBeliefs.Shortest.join -/
def ct1561 : sxCt := (56, 1, (4, [(1, .ofNat 0, .ofNat 39), (2, .ofNat 0, .ofNat 39), (3, .ofNat 2, .ofNat 64)], [], [(0, .inl 48), (1, .inr (false, (1, .ofNat 0))), (2, .inr (false, (2, .ofNat 0))), (3, .inr (false, (3, .ofNat 0)))], [], [], [], []), [(48, 5), (49, 0), (50, 0)], [
  (4, [], [], [], [], [], [], [])], [], 0, 0)
def cu1561 : List sxCu := [
  (29, (6, [(1, .ofNat 0, .ofNat 39), (2, .ofNat 0, .ofNat 39), (3, .ofNat 2, .ofNat 64), (4, .ofNat 0, .ofNat 255), (5, .ofNat 0, .ofNat 256)], [], [(0, .inl 48), (1, .inr (false, (1, .ofNat 0))), (2, .inr (false, (2, .ofNat 0))), (3, .inr (false, (3, .ofNat 0))), (4, .inr (false, (4, .ofNat 0))), (5, .inr (false, (5, .ofNat 0)))], [], [(48, (0, .ofNat 3), .inl 51)], [], []), ((0, 4, .ofNat 256), (0, 5, .ofNat 256), (0, 0, .ofNat 0)), 0, 0), 
  (8, (5, [(1, .ofNat 0, .ofNat 39), (2, .ofNat 0, .ofNat 39), (3, .ofNat 2, .ofNat 64), (4, .ofNat 0, .ofNat 256)], [], [(0, .inl 48), (1, .inr (false, (1, .ofNat 0))), (2, .inr (false, (2, .ofNat 0))), (3, .inr (false, (3, .ofNat 0))), (4, .inr (false, (4, .ofNat 0)))], [], [(48, (0, .ofNat 3), .inl 51)], [], []), ((0, 4, .ofNat 256), (0, 0, .ofNat 257), (0, 0, .ofNat 0)), 0, 0)]
set_option maxRecDepth 1000000 in
theorem cv1561 {gh : sxGh} (hg : sxGd sxKw gh) : sxCtV sxKw gh ct1561 := sxMeB_ok (cts := [ct1395]) (cuts := cu1561) (sp := []) 117 (by decide +kernel) hg (by decide) (by decide) (List.forall_mem_cons.mpr ⟨cv1395 hg, (fun _ h => absurd h List.not_mem_nil)⟩)
/-- LotBeliefs.Shortest.join -/
def ct1562 : sxCt := (56, 1, (4, [(1, .ofNat 0, .ofNat 2), (2, .ofNat 2, .ofNat 64), (3, .ofNat 2, .ofNat 64)], [], [(0, .inl 48), (1, .inr (false, (1, .ofNat 0))), (2, .inr (false, (2, .ofNat 0))), (3, .inr (false, (3, .ofNat 0)))], [], [], [], []), [(48, 5), (49, 0), (50, 0)], [
  (4, [], [], [], [], [], [], [])], [], 0, 0)
def cu1562 : List sxCu := [
  (29, (6, [(1, .ofNat 0, .ofNat 2), (2, .ofNat 2, .ofNat 64), (3, .ofNat 2, .ofNat 64), (4, .ofNat 0, .ofNat 255), (5, .ofNat 0, .ofNat 256)], [], [(0, .inl 48), (1, .inr (false, (1, .ofNat 0))), (2, .inr (false, (2, .ofNat 0))), (3, .inr (false, (3, .ofNat 0))), (4, .inr (false, (4, .ofNat 0))), (5, .inr (false, (5, .ofNat 0)))], [], [(48, (0, .ofNat 3), .inl 51)], [], []), ((0, 4, .ofNat 256), (0, 5, .ofNat 256), (0, 0, .ofNat 0)), 0, 0), 
  (8, (5, [(1, .ofNat 0, .ofNat 2), (2, .ofNat 2, .ofNat 64), (3, .ofNat 2, .ofNat 64), (4, .ofNat 0, .ofNat 256)], [], [(0, .inl 48), (1, .inr (false, (1, .ofNat 0))), (2, .inr (false, (2, .ofNat 0))), (3, .inr (false, (3, .ofNat 0))), (4, .inr (false, (4, .ofNat 0)))], [], [(48, (0, .ofNat 3), .inl 51)], [], []), ((0, 4, .ofNat 256), (0, 0, .ofNat 257), (0, 0, .ofNat 0)), 0, 0)]
set_option maxRecDepth 1000000 in
theorem cv1562 {gh : sxGh} (hg : sxGd sxKw gh) : sxCtV sxKw gh ct1562 := sxMeB_ok (cts := [ct1395]) (cuts := cu1562) (sp := []) 117 (by decide +kernel) hg (by decide) (by decide) (List.forall_mem_cons.mpr ⟨cv1395 hg, (fun _ h => absurd h List.not_mem_nil)⟩)
/-- LotBeliefs.Shortest.join -/
def ct1563 : sxCt := (56, 1, (4, [(1, .ofNat 0, .ofNat 10), (2, .ofNat 0, .ofNat 60), (3, .ofNat 2, .ofNat 64)], [], [(0, .inl 48), (1, .inr (false, (1, .ofNat 0))), (2, .inr (false, (2, .ofNat 0))), (3, .inr (false, (3, .ofNat 0)))], [], [], [], []), [(48, 5), (49, 0), (50, 0)], [
  (4, [], [], [], [], [], [], [])], [], 0, 0)
def cu1563 : List sxCu := [
  (29, (6, [(1, .ofNat 0, .ofNat 10), (2, .ofNat 0, .ofNat 60), (3, .ofNat 2, .ofNat 64), (4, .ofNat 0, .ofNat 255), (5, .ofNat 0, .ofNat 256)], [], [(0, .inl 48), (1, .inr (false, (1, .ofNat 0))), (2, .inr (false, (2, .ofNat 0))), (3, .inr (false, (3, .ofNat 0))), (4, .inr (false, (4, .ofNat 0))), (5, .inr (false, (5, .ofNat 0)))], [], [(48, (0, .ofNat 3), .inl 51)], [], []), ((0, 4, .ofNat 256), (0, 5, .ofNat 256), (0, 0, .ofNat 0)), 0, 0), 
  (8, (5, [(1, .ofNat 0, .ofNat 10), (2, .ofNat 0, .ofNat 60), (3, .ofNat 2, .ofNat 64), (4, .ofNat 0, .ofNat 256)], [], [(0, .inl 48), (1, .inr (false, (1, .ofNat 0))), (2, .inr (false, (2, .ofNat 0))), (3, .inr (false, (3, .ofNat 0))), (4, .inr (false, (4, .ofNat 0)))], [], [(48, (0, .ofNat 3), .inl 51)], [], []), ((0, 4, .ofNat 256), (0, 0, .ofNat 257), (0, 0, .ofNat 0)), 0, 0)]
set_option maxRecDepth 1000000 in
theorem cv1563 {gh : sxGh} (hg : sxGd sxKw gh) : sxCtV sxKw gh ct1563 := sxMeB_ok (cts := [ct1395]) (cuts := cu1563) (sp := []) 117 (by decide +kernel) hg (by decide) (by decide) (List.forall_mem_cons.mpr ⟨cv1395 hg, (fun _ h => absurd h List.not_mem_nil)⟩)
/-- LotBeliefs.Shortest.join -/
def ct1564 : sxCt := (56, 1, (4, [(1, .ofNat 0, .ofNat 11), (2, .ofNat 0, .ofNat 52), (3, .ofNat 2, .ofNat 64)], [], [(0, .inl 48), (1, .inr (false, (1, .ofNat 0))), (2, .inr (false, (2, .ofNat 0))), (3, .inr (false, (3, .ofNat 0)))], [], [], [], []), [(48, 5), (49, 0), (50, 0)], [
  (4, [], [], [], [], [], [], [])], [], 0, 0)
def cu1564 : List sxCu := [
  (29, (6, [(1, .ofNat 0, .ofNat 11), (2, .ofNat 0, .ofNat 52), (3, .ofNat 2, .ofNat 64), (4, .ofNat 0, .ofNat 255), (5, .ofNat 0, .ofNat 256)], [], [(0, .inl 48), (1, .inr (false, (1, .ofNat 0))), (2, .inr (false, (2, .ofNat 0))), (3, .inr (false, (3, .ofNat 0))), (4, .inr (false, (4, .ofNat 0))), (5, .inr (false, (5, .ofNat 0)))], [], [(48, (0, .ofNat 3), .inl 51)], [], []), ((0, 4, .ofNat 256), (0, 5, .ofNat 256), (0, 0, .ofNat 0)), 0, 0), 
  (8, (5, [(1, .ofNat 0, .ofNat 11), (2, .ofNat 0, .ofNat 52), (3, .ofNat 2, .ofNat 64), (4, .ofNat 0, .ofNat 256)], [], [(0, .inl 48), (1, .inr (false, (1, .ofNat 0))), (2, .inr (false, (2, .ofNat 0))), (3, .inr (false, (3, .ofNat 0))), (4, .inr (false, (4, .ofNat 0)))], [], [(48, (0, .ofNat 3), .inl 51)], [], []), ((0, 4, .ofNat 256), (0, 0, .ofNat 257), (0, 0, .ofNat 0)), 0, 0)]
set_option maxRecDepth 1000000 in
theorem cv1564 {gh : sxGh} (hg : sxGd sxKw gh) : sxCtV sxKw gh ct1564 := sxMeB_ok (cts := [ct1395]) (cuts := cu1564) (sp := []) 117 (by decide +kernel) hg (by decide) (by decide) (List.forall_mem_cons.mpr ⟨cv1395 hg, (fun _ h => absurd h List.not_mem_nil)⟩)
/-- LotBeliefs.Shortest.build -/
def ct1565 : sxCt := (53, 2, (2, [(1, .ofNat 0, .ofNat 3)], [], [(0, .inl 48), (1, .inr (false, (1, .ofNat 0)))], [], [], [], []), [(48, 1), (48, 5), (49000051, 0)], [
  (2, [], [], [], [], [(48, (0, .ofNat 0), .inr (false, (1, .ofNat 0))), (51, (0, .ofNat 1), .inr (false, (0, .ofNat 0)))], [], [])], [], 0, 0)
def cu1565 : List sxCu := [
  (109, (4, [(1, .ofNat 0, .ofNat 3), (2, .ofNat 1, .ofNat 255), (3, .ofNat 2, .ofNat 64)], [], [(0, .inl 48), (1, .inr (false, (1, .ofNat 0))), (2, .inr (false, (2, .ofNat 0))), (3, .inr (false, (3, .ofNat 0))), (4, .inr (false, (0, .ofNat 1)))], [], [(48, (0, .ofNat 0), .inr (false, (1, .ofNat 0))), (48, (0, .ofNat 1), .inl 49), (48, (0, .ofNat 3), .inl 51), (51, (0, .ofNat 1), .inr (false, (0, .ofNat 0)))], [], []), ((0, 3, .ofNat 127), (0, 0, .ofNat 31), (0, 0, .ofNat 0)), 0, 0), 
  (109, (4, [(1, .ofNat 0, .ofNat 3), (2, .ofNat 1, .ofNat 255), (3, .ofNat 19, .ofNat 64)], [], [(0, .inl 48), (1, .inr (false, (1, .ofNat 0))), (2, .inr (false, (2, .ofNat 0))), (3, .inr (false, (3, .ofNat 0))), (4, .inr (false, (0, .ofNat 10)))], [], [(48, (0, .ofNat 0), .inr (false, (1, .ofNat 0))), (48, (0, .ofNat 1), .inl 49), (48, (0, .ofNat 3), .inl 51), (51, (0, .ofNat 1), .inr (false, (0, .ofNat 0)))], [], []), ((0, 3, .ofNat 127), (0, 0, .ofNat 22), (0, 0, .ofNat 0)), 0, 0), 
  (109, (4, [(1, .ofNat 0, .ofNat 3), (2, .ofNat 1, .ofNat 255), (3, .ofNat 21, .ofNat 64)], [], [(0, .inl 48), (1, .inr (false, (1, .ofNat 0))), (2, .inr (false, (2, .ofNat 0))), (3, .inr (false, (3, .ofNat 0))), (4, .inr (false, (0, .ofNat 11)))], [], [(48, (0, .ofNat 0), .inr (false, (1, .ofNat 0))), (48, (0, .ofNat 1), .inl 49), (48, (0, .ofNat 3), .inl 51), (51, (0, .ofNat 1), .inr (false, (0, .ofNat 0)))], [], []), ((0, 3, .ofNat 127), (0, 0, .ofNat 21), (0, 0, .ofNat 0)), 0, 0), 
  (109, (4, [(1, .ofNat 0, .ofNat 3), (2, .ofNat 1, .ofNat 255), (3, .ofNat 23, .ofNat 64)], [], [(0, .inl 48), (1, .inr (false, (1, .ofNat 0))), (2, .inr (false, (2, .ofNat 0))), (3, .inr (false, (3, .ofNat 0))), (4, .inr (false, (0, .ofNat 12)))], [], [(48, (0, .ofNat 0), .inr (false, (1, .ofNat 0))), (48, (0, .ofNat 1), .inl 49), (48, (0, .ofNat 3), .inl 51), (51, (0, .ofNat 1), .inr (false, (0, .ofNat 0)))], [], []), ((0, 3, .ofNat 127), (0, 0, .ofNat 20), (0, 0, .ofNat 0)), 0, 0), 
  (109, (4, [(1, .ofNat 0, .ofNat 3), (2, .ofNat 1, .ofNat 255), (3, .ofNat 25, .ofNat 64)], [], [(0, .inl 48), (1, .inr (false, (1, .ofNat 0))), (2, .inr (false, (2, .ofNat 0))), (3, .inr (false, (3, .ofNat 0))), (4, .inr (false, (0, .ofNat 13)))], [], [(48, (0, .ofNat 0), .inr (false, (1, .ofNat 0))), (48, (0, .ofNat 1), .inl 49), (48, (0, .ofNat 3), .inl 51), (51, (0, .ofNat 1), .inr (false, (0, .ofNat 0)))], [], []), ((0, 3, .ofNat 127), (0, 0, .ofNat 19), (0, 0, .ofNat 0)), 0, 0), 
  (109, (4, [(1, .ofNat 0, .ofNat 3), (2, .ofNat 1, .ofNat 255), (3, .ofNat 27, .ofNat 64)], [], [(0, .inl 48), (1, .inr (false, (1, .ofNat 0))), (2, .inr (false, (2, .ofNat 0))), (3, .inr (false, (3, .ofNat 0))), (4, .inr (false, (0, .ofNat 14)))], [], [(48, (0, .ofNat 0), .inr (false, (1, .ofNat 0))), (48, (0, .ofNat 1), .inl 49), (48, (0, .ofNat 3), .inl 51), (51, (0, .ofNat 1), .inr (false, (0, .ofNat 0)))], [], []), ((0, 3, .ofNat 127), (0, 0, .ofNat 18), (0, 0, .ofNat 0)), 0, 0), 
  (109, (4, [(1, .ofNat 0, .ofNat 3), (2, .ofNat 1, .ofNat 255), (3, .ofNat 29, .ofNat 64)], [], [(0, .inl 48), (1, .inr (false, (1, .ofNat 0))), (2, .inr (false, (2, .ofNat 0))), (3, .inr (false, (3, .ofNat 0))), (4, .inr (false, (0, .ofNat 15)))], [], [(48, (0, .ofNat 0), .inr (false, (1, .ofNat 0))), (48, (0, .ofNat 1), .inl 49), (48, (0, .ofNat 3), .inl 51), (51, (0, .ofNat 1), .inr (false, (0, .ofNat 0)))], [], []), ((0, 3, .ofNat 127), (0, 0, .ofNat 17), (0, 0, .ofNat 0)), 0, 0), 
  (109, (4, [(1, .ofNat 0, .ofNat 3), (2, .ofNat 1, .ofNat 255), (3, .ofNat 31, .ofNat 64)], [], [(0, .inl 48), (1, .inr (false, (1, .ofNat 0))), (2, .inr (false, (2, .ofNat 0))), (3, .inr (false, (3, .ofNat 0))), (4, .inr (false, (0, .ofNat 16)))], [], [(48, (0, .ofNat 0), .inr (false, (1, .ofNat 0))), (48, (0, .ofNat 1), .inl 49), (48, (0, .ofNat 3), .inl 51), (51, (0, .ofNat 1), .inr (false, (0, .ofNat 0)))], [], []), ((0, 3, .ofNat 127), (0, 0, .ofNat 16), (0, 0, .ofNat 0)), 0, 0), 
  (109, (4, [(1, .ofNat 0, .ofNat 3), (2, .ofNat 1, .ofNat 255), (3, .ofNat 33, .ofNat 64)], [], [(0, .inl 48), (1, .inr (false, (1, .ofNat 0))), (2, .inr (false, (2, .ofNat 0))), (3, .inr (false, (3, .ofNat 0))), (4, .inr (false, (0, .ofNat 17)))], [], [(48, (0, .ofNat 0), .inr (false, (1, .ofNat 0))), (48, (0, .ofNat 1), .inl 49), (48, (0, .ofNat 3), .inl 51), (51, (0, .ofNat 1), .inr (false, (0, .ofNat 0)))], [], []), ((0, 3, .ofNat 127), (0, 0, .ofNat 15), (0, 0, .ofNat 0)), 0, 0), 
  (109, (4, [(1, .ofNat 0, .ofNat 3), (2, .ofNat 1, .ofNat 255), (3, .ofNat 35, .ofNat 64)], [], [(0, .inl 48), (1, .inr (false, (1, .ofNat 0))), (2, .inr (false, (2, .ofNat 0))), (3, .inr (false, (3, .ofNat 0))), (4, .inr (false, (0, .ofNat 18)))], [], [(48, (0, .ofNat 0), .inr (false, (1, .ofNat 0))), (48, (0, .ofNat 1), .inl 49), (48, (0, .ofNat 3), .inl 51), (51, (0, .ofNat 1), .inr (false, (0, .ofNat 0)))], [], []), ((0, 3, .ofNat 127), (0, 0, .ofNat 14), (0, 0, .ofNat 0)), 0, 0), 
  (109, (4, [(1, .ofNat 0, .ofNat 3), (2, .ofNat 1, .ofNat 255), (3, .ofNat 37, .ofNat 64)], [], [(0, .inl 48), (1, .inr (false, (1, .ofNat 0))), (2, .inr (false, (2, .ofNat 0))), (3, .inr (false, (3, .ofNat 0))), (4, .inr (false, (0, .ofNat 19)))], [], [(48, (0, .ofNat 0), .inr (false, (1, .ofNat 0))), (48, (0, .ofNat 1), .inl 49), (48, (0, .ofNat 3), .inl 51), (51, (0, .ofNat 1), .inr (false, (0, .ofNat 0)))], [], []), ((0, 3, .ofNat 127), (0, 0, .ofNat 13), (0, 0, .ofNat 0)), 0, 0), 
  (109, (4, [(1, .ofNat 0, .ofNat 3), (2, .ofNat 1, .ofNat 255), (3, .ofNat 3, .ofNat 64)], [], [(0, .inl 48), (1, .inr (false, (1, .ofNat 0))), (2, .inr (false, (2, .ofNat 0))), (3, .inr (false, (3, .ofNat 0))), (4, .inr (false, (0, .ofNat 2)))], [], [(48, (0, .ofNat 0), .inr (false, (1, .ofNat 0))), (48, (0, .ofNat 1), .inl 49), (48, (0, .ofNat 3), .inl 51), (51, (0, .ofNat 1), .inr (false, (0, .ofNat 0)))], [], []), ((0, 3, .ofNat 127), (0, 0, .ofNat 30), (0, 0, .ofNat 0)), 0, 0), 
  (109, (4, [(1, .ofNat 0, .ofNat 3), (2, .ofNat 1, .ofNat 255), (3, .ofNat 39, .ofNat 64)], [], [(0, .inl 48), (1, .inr (false, (1, .ofNat 0))), (2, .inr (false, (2, .ofNat 0))), (3, .inr (false, (3, .ofNat 0))), (4, .inr (false, (0, .ofNat 20)))], [], [(48, (0, .ofNat 0), .inr (false, (1, .ofNat 0))), (48, (0, .ofNat 1), .inl 49), (48, (0, .ofNat 3), .inl 51), (51, (0, .ofNat 1), .inr (false, (0, .ofNat 0)))], [], []), ((0, 3, .ofNat 127), (0, 0, .ofNat 12), (0, 0, .ofNat 0)), 0, 0), 
  (109, (4, [(1, .ofNat 0, .ofNat 3), (2, .ofNat 1, .ofNat 255), (3, .ofNat 41, .ofNat 64)], [], [(0, .inl 48), (1, .inr (false, (1, .ofNat 0))), (2, .inr (false, (2, .ofNat 0))), (3, .inr (false, (3, .ofNat 0))), (4, .inr (false, (0, .ofNat 21)))], [], [(48, (0, .ofNat 0), .inr (false, (1, .ofNat 0))), (48, (0, .ofNat 1), .inl 49), (48, (0, .ofNat 3), .inl 51), (51, (0, .ofNat 1), .inr (false, (0, .ofNat 0)))], [], []), ((0, 3, .ofNat 127), (0, 0, .ofNat 11), (0, 0, .ofNat 0)), 0, 0), 
  (109, (4, [(1, .ofNat 0, .ofNat 3), (2, .ofNat 1, .ofNat 255), (3, .ofNat 43, .ofNat 64)], [], [(0, .inl 48), (1, .inr (false, (1, .ofNat 0))), (2, .inr (false, (2, .ofNat 0))), (3, .inr (false, (3, .ofNat 0))), (4, .inr (false, (0, .ofNat 22)))], [], [(48, (0, .ofNat 0), .inr (false, (1, .ofNat 0))), (48, (0, .ofNat 1), .inl 49), (48, (0, .ofNat 3), .inl 51), (51, (0, .ofNat 1), .inr (false, (0, .ofNat 0)))], [], []), ((0, 3, .ofNat 127), (0, 0, .ofNat 10), (0, 0, .ofNat 0)), 0, 0), 
  (109, (4, [(1, .ofNat 0, .ofNat 3), (2, .ofNat 1, .ofNat 255), (3, .ofNat 45, .ofNat 64)], [], [(0, .inl 48), (1, .inr (false, (1, .ofNat 0))), (2, .inr (false, (2, .ofNat 0))), (3, .inr (false, (3, .ofNat 0))), (4, .inr (false, (0, .ofNat 23)))], [], [(48, (0, .ofNat 0), .inr (false, (1, .ofNat 0))), (48, (0, .ofNat 1), .inl 49), (48, (0, .ofNat 3), .inl 51), (51, (0, .ofNat 1), .inr (false, (0, .ofNat 0)))], [], []), ((0, 3, .ofNat 127), (0, 0, .ofNat 9), (0, 0, .ofNat 0)), 0, 0), 
  (109, (4, [(1, .ofNat 0, .ofNat 3), (2, .ofNat 1, .ofNat 255), (3, .ofNat 47, .ofNat 64)], [], [(0, .inl 48), (1, .inr (false, (1, .ofNat 0))), (2, .inr (false, (2, .ofNat 0))), (3, .inr (false, (3, .ofNat 0))), (4, .inr (false, (0, .ofNat 24)))], [], [(48, (0, .ofNat 0), .inr (false, (1, .ofNat 0))), (48, (0, .ofNat 1), .inl 49), (48, (0, .ofNat 3), .inl 51), (51, (0, .ofNat 1), .inr (false, (0, .ofNat 0)))], [], []), ((0, 3, .ofNat 127), (0, 0, .ofNat 8), (0, 0, .ofNat 0)), 0, 0), 
  (109, (4, [(1, .ofNat 0, .ofNat 3), (2, .ofNat 1, .ofNat 255), (3, .ofNat 49, .ofNat 64)], [], [(0, .inl 48), (1, .inr (false, (1, .ofNat 0))), (2, .inr (false, (2, .ofNat 0))), (3, .inr (false, (3, .ofNat 0))), (4, .inr (false, (0, .ofNat 25)))], [], [(48, (0, .ofNat 0), .inr (false, (1, .ofNat 0))), (48, (0, .ofNat 1), .inl 49), (48, (0, .ofNat 3), .inl 51), (51, (0, .ofNat 1), .inr (false, (0, .ofNat 0)))], [], []), ((0, 3, .ofNat 127), (0, 0, .ofNat 7), (0, 0, .ofNat 0)), 0, 0), 
  (109, (4, [(1, .ofNat 0, .ofNat 3), (2, .ofNat 1, .ofNat 255), (3, .ofNat 51, .ofNat 64)], [], [(0, .inl 48), (1, .inr (false, (1, .ofNat 0))), (2, .inr (false, (2, .ofNat 0))), (3, .inr (false, (3, .ofNat 0))), (4, .inr (false, (0, .ofNat 26)))], [], [(48, (0, .ofNat 0), .inr (false, (1, .ofNat 0))), (48, (0, .ofNat 1), .inl 49), (48, (0, .ofNat 3), .inl 51), (51, (0, .ofNat 1), .inr (false, (0, .ofNat 0)))], [], []), ((0, 3, .ofNat 127), (0, 0, .ofNat 6), (0, 0, .ofNat 0)), 0, 0), 
  (109, (4, [(1, .ofNat 0, .ofNat 3), (2, .ofNat 1, .ofNat 255), (3, .ofNat 53, .ofNat 64)], [], [(0, .inl 48), (1, .inr (false, (1, .ofNat 0))), (2, .inr (false, (2, .ofNat 0))), (3, .inr (false, (3, .ofNat 0))), (4, .inr (false, (0, .ofNat 27)))], [], [(48, (0, .ofNat 0), .inr (false, (1, .ofNat 0))), (48, (0, .ofNat 1), .inl 49), (48, (0, .ofNat 3), .inl 51), (51, (0, .ofNat 1), .inr (false, (0, .ofNat 0)))], [], []), ((0, 3, .ofNat 127), (0, 0, .ofNat 5), (0, 0, .ofNat 0)), 0, 0), 
  (109, (4, [(1, .ofNat 0, .ofNat 3), (2, .ofNat 1, .ofNat 255), (3, .ofNat 55, .ofNat 64)], [], [(0, .inl 48), (1, .inr (false, (1, .ofNat 0))), (2, .inr (false, (2, .ofNat 0))), (3, .inr (false, (3, .ofNat 0))), (4, .inr (false, (0, .ofNat 28)))], [], [(48, (0, .ofNat 0), .inr (false, (1, .ofNat 0))), (48, (0, .ofNat 1), .inl 49), (48, (0, .ofNat 3), .inl 51), (51, (0, .ofNat 1), .inr (false, (0, .ofNat 0)))], [], []), ((0, 3, .ofNat 127), (0, 0, .ofNat 4), (0, 0, .ofNat 0)), 0, 0), 
  (109, (4, [(1, .ofNat 0, .ofNat 3), (2, .ofNat 1, .ofNat 255), (3, .ofNat 57, .ofNat 64)], [], [(0, .inl 48), (1, .inr (false, (1, .ofNat 0))), (2, .inr (false, (2, .ofNat 0))), (3, .inr (false, (3, .ofNat 0))), (4, .inr (false, (0, .ofNat 29)))], [], [(48, (0, .ofNat 0), .inr (false, (1, .ofNat 0))), (48, (0, .ofNat 1), .inl 49), (48, (0, .ofNat 3), .inl 51), (51, (0, .ofNat 1), .inr (false, (0, .ofNat 0)))], [], []), ((0, 3, .ofNat 127), (0, 0, .ofNat 3), (0, 0, .ofNat 0)), 0, 0), 
  (109, (4, [(1, .ofNat 0, .ofNat 3), (2, .ofNat 1, .ofNat 255), (3, .ofNat 5, .ofNat 64)], [], [(0, .inl 48), (1, .inr (false, (1, .ofNat 0))), (2, .inr (false, (2, .ofNat 0))), (3, .inr (false, (3, .ofNat 0))), (4, .inr (false, (0, .ofNat 3)))], [], [(48, (0, .ofNat 0), .inr (false, (1, .ofNat 0))), (48, (0, .ofNat 1), .inl 49), (48, (0, .ofNat 3), .inl 51), (51, (0, .ofNat 1), .inr (false, (0, .ofNat 0)))], [], []), ((0, 3, .ofNat 127), (0, 0, .ofNat 29), (0, 0, .ofNat 0)), 0, 0), 
  (109, (4, [(1, .ofNat 0, .ofNat 3), (2, .ofNat 1, .ofNat 255), (3, .ofNat 59, .ofNat 64)], [], [(0, .inl 48), (1, .inr (false, (1, .ofNat 0))), (2, .inr (false, (2, .ofNat 0))), (3, .inr (false, (3, .ofNat 0))), (4, .inr (false, (0, .ofNat 30)))], [], [(48, (0, .ofNat 0), .inr (false, (1, .ofNat 0))), (48, (0, .ofNat 1), .inl 49), (48, (0, .ofNat 3), .inl 51), (51, (0, .ofNat 1), .inr (false, (0, .ofNat 0)))], [], []), ((0, 3, .ofNat 127), (0, 0, .ofNat 2), (0, 0, .ofNat 0)), 0, 0), 
  (109, (4, [(1, .ofNat 0, .ofNat 3), (2, .ofNat 1, .ofNat 255), (3, .ofNat 61, .ofNat 64)], [], [(0, .inl 48), (1, .inr (false, (1, .ofNat 0))), (2, .inr (false, (2, .ofNat 0))), (3, .inr (false, (3, .ofNat 0))), (4, .inr (false, (0, .ofNat 31)))], [], [(48, (0, .ofNat 0), .inr (false, (1, .ofNat 0))), (48, (0, .ofNat 1), .inl 49), (48, (0, .ofNat 3), .inl 51), (51, (0, .ofNat 1), .inr (false, (0, .ofNat 0)))], [], []), ((0, 3, .ofNat 127), (0, 0, .ofNat 1), (0, 0, .ofNat 0)), 0, 0), 
  (109, (4, [(1, .ofNat 0, .ofNat 3), (2, .ofNat 1, .ofNat 255), (3, .ofNat 63, .ofNat 64)], [], [(0, .inl 48), (1, .inr (false, (1, .ofNat 0))), (2, .inr (false, (2, .ofNat 0))), (3, .inr (false, (3, .ofNat 0))), (4, .inr (false, (0, .ofNat 32)))], [], [(48, (0, .ofNat 0), .inr (false, (1, .ofNat 0))), (48, (0, .ofNat 1), .inl 49), (48, (0, .ofNat 3), .inl 51), (51, (0, .ofNat 1), .inr (false, (0, .ofNat 0)))], [], []), ((0, 3, .ofNat 127), (0, 0, .ofNat 0), (0, 0, .ofNat 0)), 0, 0), 
  (109, (4, [(1, .ofNat 0, .ofNat 3), (2, .ofNat 1, .ofNat 255), (3, .ofNat 7, .ofNat 64)], [], [(0, .inl 48), (1, .inr (false, (1, .ofNat 0))), (2, .inr (false, (2, .ofNat 0))), (3, .inr (false, (3, .ofNat 0))), (4, .inr (false, (0, .ofNat 4)))], [], [(48, (0, .ofNat 0), .inr (false, (1, .ofNat 0))), (48, (0, .ofNat 1), .inl 49), (48, (0, .ofNat 3), .inl 51), (51, (0, .ofNat 1), .inr (false, (0, .ofNat 0)))], [], []), ((0, 3, .ofNat 127), (0, 0, .ofNat 28), (0, 0, .ofNat 0)), 0, 0), 
  (109, (4, [(1, .ofNat 0, .ofNat 3), (2, .ofNat 1, .ofNat 255), (3, .ofNat 9, .ofNat 64)], [], [(0, .inl 48), (1, .inr (false, (1, .ofNat 0))), (2, .inr (false, (2, .ofNat 0))), (3, .inr (false, (3, .ofNat 0))), (4, .inr (false, (0, .ofNat 5)))], [], [(48, (0, .ofNat 0), .inr (false, (1, .ofNat 0))), (48, (0, .ofNat 1), .inl 49), (48, (0, .ofNat 3), .inl 51), (51, (0, .ofNat 1), .inr (false, (0, .ofNat 0)))], [], []), ((0, 3, .ofNat 127), (0, 0, .ofNat 27), (0, 0, .ofNat 0)), 0, 0), 
  (109, (4, [(1, .ofNat 0, .ofNat 3), (2, .ofNat 1, .ofNat 255), (3, .ofNat 11, .ofNat 64)], [], [(0, .inl 48), (1, .inr (false, (1, .ofNat 0))), (2, .inr (false, (2, .ofNat 0))), (3, .inr (false, (3, .ofNat 0))), (4, .inr (false, (0, .ofNat 6)))], [], [(48, (0, .ofNat 0), .inr (false, (1, .ofNat 0))), (48, (0, .ofNat 1), .inl 49), (48, (0, .ofNat 3), .inl 51), (51, (0, .ofNat 1), .inr (false, (0, .ofNat 0)))], [], []), ((0, 3, .ofNat 127), (0, 0, .ofNat 26), (0, 0, .ofNat 0)), 0, 0), 
  (109, (4, [(1, .ofNat 0, .ofNat 3), (2, .ofNat 1, .ofNat 255), (3, .ofNat 13, .ofNat 64)], [], [(0, .inl 48), (1, .inr (false, (1, .ofNat 0))), (2, .inr (false, (2, .ofNat 0))), (3, .inr (false, (3, .ofNat 0))), (4, .inr (false, (0, .ofNat 7)))], [], [(48, (0, .ofNat 0), .inr (false, (1, .ofNat 0))), (48, (0, .ofNat 1), .inl 49), (48, (0, .ofNat 3), .inl 51), (51, (0, .ofNat 1), .inr (false, (0, .ofNat 0)))], [], []), ((0, 3, .ofNat 127), (0, 0, .ofNat 25), (0, 0, .ofNat 0)), 0, 0), 
  (109, (4, [(1, .ofNat 0, .ofNat 3), (2, .ofNat 1, .ofNat 255), (3, .ofNat 15, .ofNat 64)], [], [(0, .inl 48), (1, .inr (false, (1, .ofNat 0))), (2, .inr (false, (2, .ofNat 0))), (3, .inr (false, (3, .ofNat 0))), (4, .inr (false, (0, .ofNat 8)))], [], [(48, (0, .ofNat 0), .inr (false, (1, .ofNat 0))), (48, (0, .ofNat 1), .inl 49), (48, (0, .ofNat 3), .inl 51), (51, (0, .ofNat 1), .inr (false, (0, .ofNat 0)))], [], []), ((0, 3, .ofNat 127), (0, 0, .ofNat 24), (0, 0, .ofNat 0)), 0, 0), 
  (109, (4, [(1, .ofNat 0, .ofNat 3), (2, .ofNat 1, .ofNat 255), (3, .ofNat 17, .ofNat 64)], [], [(0, .inl 48), (1, .inr (false, (1, .ofNat 0))), (2, .inr (false, (2, .ofNat 0))), (3, .inr (false, (3, .ofNat 0))), (4, .inr (false, (0, .ofNat 9)))], [], [(48, (0, .ofNat 0), .inr (false, (1, .ofNat 0))), (48, (0, .ofNat 1), .inl 49), (48, (0, .ofNat 3), .inl 51), (51, (0, .ofNat 1), .inr (false, (0, .ofNat 0)))], [], []), ((0, 3, .ofNat 127), (0, 0, .ofNat 23), (0, 0, .ofNat 0)), 0, 0), 
  (12, (3, [(1, .ofNat 0, .ofNat 3), (2, .ofNat 0, .ofNat 256)], [], [(0, .inl 48), (1, .inr (false, (1, .ofNat 0))), (2, .inr (false, (2, .ofNat 0)))], [], [(48, (0, .ofNat 0), .inr (false, (1, .ofNat 0))), (48, (0, .ofNat 4), .inr (false, (0, .ofNat 0)))], [], []), ((0, 2, .ofNat 386), (0, 0, .ofNat 0), (0, 0, .ofNat 0)), 0, 0), 
  (51, (5, [(1, .ofNat 0, .ofNat 3), (2, .ofNat 1, .ofNat 255), (3, .ofNat 0, .ofNat 3), (4, .ofNat 0, .ofNat 256)], [], [(0, .inl 48), (1, .inr (false, (1, .ofNat 0))), (2, .inr (false, (2, .ofNat 0))), (3, .inr (false, (3, .ofNat 0)))], [], [(48, (0, .ofNat 0), .inr (false, (1, .ofNat 0))), (48, (0, .ofNat 1), .inl 49), (48, (0, .ofNat 3), .inl 51), (48, (0, .ofNat 4), .inr (false, (4, .ofNat 0))), (51, (0, .ofNat 1), .inr (false, (0, .ofNat 0)))], [], []), ((0, 3, .ofNat 129), (0, 0, .ofNat 0), (0, 0, .ofNat 0)), 0, 0), 
  (76, (4, [(1, .ofNat 0, .ofNat 3), (2, .ofNat 1, .ofNat 255), (3, .ofNat 2, .ofNat 127)], [], [(0, .inl 48), (1, .inr (false, (1, .ofNat 0))), (2, .inr (false, (2, .ofNat 0))), (3, .inr (false, (3, .ofNat 0)))], [], [(48, (0, .ofNat 0), .inr (false, (1, .ofNat 0))), (48, (0, .ofNat 1), .inl 49), (48, (0, .ofNat 3), .inl 51), (51, (0, .ofNat 1), .inr (false, (0, .ofNat 0)))], [], []), ((0, 3, .ofNat 127), (0, 0, .ofNat 32), (0, 0, .ofNat 0)), 0, 0)]
set_option maxRecDepth 1000000 in
theorem cv1565 {gh : sxGh} (hg : sxGd sxKw gh) : sxCtV sxKw gh ct1565 := sxMeB_ok (cts := [ct1394, ct1396, ct1547, ct1555, ct1564, ct1545, ct1548, ct1562, ct1549, ct1550, ct1556, ct1551, ct1557, ct1558, ct1552, ct1563, ct1561, ct1560, ct1559]) (cuts := cu1565) (sp := []) 817 (by decide +kernel) hg (by decide) (by decide) (List.forall_mem_cons.mpr ⟨cv1394 hg, (List.forall_mem_cons.mpr ⟨cv1396 hg, (List.forall_mem_cons.mpr ⟨cv1547 hg, (List.forall_mem_cons.mpr ⟨cv1555 hg, (List.forall_mem_cons.mpr ⟨cv1564 hg, (List.forall_mem_cons.mpr ⟨cv1545 hg, (List.forall_mem_cons.mpr ⟨cv1548 hg, (List.forall_mem_cons.mpr ⟨cv1562 hg, (List.forall_mem_cons.mpr ⟨cv1549 hg, (List.forall_mem_cons.mpr ⟨cv1550 hg, (List.forall_mem_cons.mpr ⟨cv1556 hg, (List.forall_mem_cons.mpr ⟨cv1551 hg, (List.forall_mem_cons.mpr ⟨cv1557 hg, (List.forall_mem_cons.mpr ⟨cv1558 hg, (List.forall_mem_cons.mpr ⟨cv1552 hg, (List.forall_mem_cons.mpr ⟨cv1563 hg, (List.forall_mem_cons.mpr ⟨cv1561 hg, (List.forall_mem_cons.mpr ⟨cv1560 hg, (List.forall_mem_cons.mpr ⟨cv1559 hg, (fun _ h => absurd h List.not_mem_nil)⟩)⟩)⟩)⟩)⟩)⟩)⟩)⟩)⟩)⟩)⟩)⟩)⟩)⟩)⟩)⟩)⟩)⟩)⟩)
/-- LotBeliefsModel.atomOf -/
def ct1566 : sxCt := (215, 0, (2, [(1, .ofNat 0, .ofNat 3)], [], [(0, .inr (false, (0, .ofNat 0))), (1, .inr (false, (1, .ofNat 0)))], [], [], [], []), [], [
  (3, [(2, .ofNat 0, .ofNat 255)], [], [], [.inr (true, (2, .ofNat 0))], [], [], [])], [], 0, 0)
def cu1566 : List sxCu := []
set_option maxRecDepth 1000000 in
theorem cv1566 {gh : sxGh} (hg : sxGd sxKw gh) : sxCtV sxKw gh ct1566 := sxMeB_ok (cts := []) (cuts := cu1566) (sp := []) 229 (by decide +kernel) hg (by decide) (by decide) (fun _ h => absurd h List.not_mem_nil)
/-- LotBeliefsModel.atomOf -/
def ct1567 : sxCt := (215, 0, (2, [(1, .ofNat 0, .ofNat 3)], [], [(0, .inr (false, (0, .ofNat 1))), (1, .inr (false, (1, .ofNat 0)))], [], [], [], []), [], [
  (3, [(2, .ofNat 0, .ofNat 255)], [], [], [.inr (true, (2, .ofNat 0))], [], [], [])], [], 0, 0)
def cu1567 : List sxCu := []
set_option maxRecDepth 1000000 in
theorem cv1567 {gh : sxGh} (hg : sxGd sxKw gh) : sxCtV sxKw gh ct1567 := sxMeB_ok (cts := []) (cuts := cu1567) (sp := []) 229 (by decide +kernel) hg (by decide) (by decide) (fun _ h => absurd h List.not_mem_nil)
/-- LotBeliefsModel.atomOf -/
def ct1568 : sxCt := (215, 0, (1, [], [], [(0, .inr (false, (0, .ofNat 2))), (1, .inr (false, (0, .ofNat 3)))], [], [], [], []), [], [
  (2, [(1, .ofNat 0, .ofNat 255)], [], [], [.inr (true, (1, .ofNat 0))], [], [], [])], [], 0, 0)
def cu1568 : List sxCu := []
set_option maxRecDepth 1000000 in
theorem cv1568 {gh : sxGh} (hg : sxGd sxKw gh) : sxCtV sxKw gh ct1568 := sxMeB_ok (cts := []) (cuts := cu1568) (sp := []) 215 (by decide +kernel) hg (by decide) (by decide) (fun _ h => absurd h List.not_mem_nil)
/-- LotBeliefsModel.laysPlain -/
def ct1569 : sxCt := (317, 1, (2, [(1, .ofNat 0, .ofNat 3)], [], [(0, .inl 78)], [], [(82, (0, .ofNat 0), .inr (false, (1, .ofNat 0)))], [], []), [(577, 0)], [
  (2, [], [], [], [], [(82, (0, .ofNat 0), .inr (false, (1, .ofNat 0)))], [], [])], [], 0, 0)
def cu1569 : List sxCu := [
  (134, (6, [(1, .ofNat 0, .ofNat 3), (2, .ofNat 1, .ofNat 255), (3, .ofNat 2, .ofNat 39), (4, .ofNat 0, .ofNat 255), (5, .ofNat 0, .ofNat 256)], [], [(0, .inl 78), (1, .inr (false, (2, .ofNat 0))), (2, .inr (false, (3, .ofNat 0))), (3, .inr (false, (4, .ofNat 0))), (4, .inr (false, (5, .ofNat 0)))], [], [(78, (0, .ofNat 12), .inl 82), (78, (0, .ofNat 61), .inl 577), (82, (0, .ofNat 0), .inr (false, (1, .ofNat 0)))], [], []), ((0, 3, .ofNat 40), (0, 4, .ofNat 256), (0, 5, .ofNat 256)), 0, 0), 
  (15, (4, [(1, .ofNat 0, .ofNat 3), (2, .ofNat 1, .ofNat 255), (3, .ofNat 0, .ofNat 256)], [], [(0, .inl 78), (1, .inr (false, (2, .ofNat 0))), (2, .inr (false, (3, .ofNat 0)))], [], [(78, (0, .ofNat 12), .inl 82), (82, (0, .ofNat 0), .inr (false, (1, .ofNat 0)))], [], []), ((0, 3, .ofNat 295), (0, 0, .ofNat 0), (0, 0, .ofNat 0)), 0, 0), 
  (72, (4, [(1, .ofNat 0, .ofNat 3), (2, .ofNat 1, .ofNat 255), (3, .ofNat 2, .ofNat 40)], [], [(0, .inl 78), (1, .inr (false, (2, .ofNat 0))), (2, .inr (false, (3, .ofNat 0)))], [], [(78, (0, .ofNat 12), .inl 82), (82, (0, .ofNat 0), .inr (false, (1, .ofNat 0)))], [], []), ((0, 3, .ofNat 40), (0, 0, .ofNat 257), (0, 0, .ofNat 0)), 0, 0), 
  (80, (5, [(1, .ofNat 0, .ofNat 3), (2, .ofNat 1, .ofNat 255), (3, .ofNat 2, .ofNat 39), (4, .ofNat 0, .ofNat 256)], [], [(0, .inl 78), (1, .inr (false, (2, .ofNat 0))), (2, .inr (false, (3, .ofNat 0))), (3, .inr (false, (4, .ofNat 0)))], [], [(78, (0, .ofNat 12), .inl 82), (82, (0, .ofNat 0), .inr (false, (1, .ofNat 0)))], [], []), ((0, 3, .ofNat 40), (0, 4, .ofNat 256), (0, 0, .ofNat 257)), 0, 0)]
set_option maxRecDepth 1000000 in
theorem cv1569 {gh : sxGh} (hg : sxGd sxKw gh) : sxCtV sxKw gh ct1569 := sxMeB_ok (cts := [ct1568, ct1566, ct1567]) (cuts := cu1569) (sp := [(0, 82, 0)]) 372 (by decide +kernel) hg (by decide) (by decide) (List.forall_mem_cons.mpr ⟨cv1568 hg, (List.forall_mem_cons.mpr ⟨cv1566 hg, (List.forall_mem_cons.mpr ⟨cv1567 hg, (fun _ h => absurd h List.not_mem_nil)⟩)⟩)⟩)
/-- LotBeliefsModel.plain -/
def ct1570 : sxCt := (319, 2, (4, [(1, .ofNat 0, .ofNat 11), (2, .ofNat 1, .ofNat 3), (3, .ofNat 0, .ofNat 12)], [(1, 3, .negSucc 0)], [(0, .inl 78), (1, .inr (false, (1, .ofNat 0)))], [], [(579, (0, .ofNat 3), .inr (false, (0, .ofNat 1))), (82, (0, .ofNat 0), .inr (false, (2, .ofNat 0))), (82, (0, .ofNat 1), .inr (false, (3, .ofNat 0)))], [], []), [(78, 1), (577, 0)], [
  (5, [(4, .ofNat 0, .ofNat 40)], [], [], [.inr (false, (4, .ofNat 0))], [(78, (0, .ofNat 0), .inr (false, (0, .ofNat 0))), (82, (0, .ofNat 0), .inr (false, (2, .ofNat 0))), (82, (0, .ofNat 1), .inr (false, (3, .ofNat 0))), (579, (0, .ofNat 3), .inr (false, (0, .ofNat 1)))], [], [])], [], 0, 0)
def cu1570 : List sxCu := []
set_option maxRecDepth 1000000 in
theorem cv1570 {gh : sxGh} (hg : sxGd sxKw gh) : sxCtV sxKw gh ct1570 := sxMeB_ok (cts := [ct1569]) (cuts := cu1570) (sp := [(57, 579, 6)]) 130 (by decide +kernel) hg (by decide) (by decide) (List.forall_mem_cons.mpr ⟨cv1569 hg, (fun _ h => absurd h List.not_mem_nil)⟩)
/-- LotBeliefs.Jar.leftIf -/
def ct1607 : sxCt := (30, 1, (4, [(1, .ofNat 0, .ofNat 63), (2, .ofNat 0, .ofNat 63), (3, .ofNat 0, .ofNat 51)], [], [(0, .inl 11), (1, .inr (false, (1, .ofNat 0))), (2, .inr (false, (2, .ofNat 0))), (3, .inr (false, (3, .ofNat 0)))], [], [], [], []), [], [
  (5, [(4, .negSucc 9223372036854775807, .ofNat 9223372036854775807)], [], [], [.inr (true, (4, .ofNat 0))], [], [], [])], [], 0, 0)
def cu1607 : List sxCu := [
  (11, (6, [(1, .ofNat 0, .ofNat 63), (2, .ofNat 0, .ofNat 63), (3, .ofNat 0, .ofNat 51), (4, .negSucc 9223372036854775807, .ofNat 9223372036854775807), (5, .ofNat 0, .ofNat 6)], [], [(0, .inl 11), (1, .inr (false, (1, .ofNat 0))), (2, .inr (false, (2, .ofNat 0))), (3, .inr (false, (3, .ofNat 0))), (4, .inr (true, (4, .ofNat 0))), (6, .inr (false, (5, .ofNat 0)))], [], [(11, (0, .ofNat 11), .inl 16)], [], []), ((0, 5, .ofNat 6), (0, 0, .ofNat 0), (0, 0, .ofNat 0)), 0, 0)]
set_option maxRecDepth 1000000 in
theorem cv1607 {gh : sxGh} (hg : sxGd sxKw gh) : sxCtV sxKw gh ct1607 := sxMeB_ok (cts := []) (cuts := cu1607) (sp := []) 223 (by decide +kernel) hg (by decide) (by decide) (fun _ h => absurd h List.not_mem_nil)
/-- LotBeliefs.Jar.leftIf -/
def ct1608 : sxCt := (30, 1, (4, [(1, .ofNat 0, .ofNat 63), (2, .ofNat 0, .ofNat 63), (3, .ofNat 0, .ofNat 51)], [], [(0, .inl 3), (1, .inr (false, (1, .ofNat 0))), (2, .inr (false, (2, .ofNat 0))), (3, .inr (false, (3, .ofNat 0)))], [], [], [], []), [], [
  (5, [(4, .negSucc 9223372036854775807, .ofNat 9223372036854775807)], [], [], [.inr (true, (4, .ofNat 0))], [], [], [])], [], 0, 0)
def cu1608 : List sxCu := [
  (11, (6, [(1, .ofNat 0, .ofNat 63), (2, .ofNat 0, .ofNat 63), (3, .ofNat 0, .ofNat 51), (4, .negSucc 9223372036854775807, .ofNat 9223372036854775807), (5, .ofNat 0, .ofNat 6)], [], [(0, .inl 3), (1, .inr (false, (1, .ofNat 0))), (2, .inr (false, (2, .ofNat 0))), (3, .inr (false, (3, .ofNat 0))), (4, .inr (true, (4, .ofNat 0))), (6, .inr (false, (5, .ofNat 0)))], [], [(3, (0, .ofNat 11), .inl 8)], [], []), ((0, 5, .ofNat 6), (0, 0, .ofNat 0), (0, 0, .ofNat 0)), 0, 0)]
set_option maxRecDepth 1000000 in
theorem cv1608 {gh : sxGh} (hg : sxGd sxKw gh) : sxCtV sxKw gh ct1608 := sxMeB_ok (cts := []) (cuts := cu1608) (sp := []) 223 (by decide +kernel) hg (by decide) (by decide) (fun _ h => absurd h List.not_mem_nil)
/-- LotBeliefs.asks -/
def ct1609 : sxCt := (161, 2, (2, [(1, .ofNat 0, .ofNat 51)], [], [(0, .inl 0), (1, .inr (false, (1, .ofNat 0)))], [], [], [], []), [], [
  (3, [(2, .negSucc 0, .ofNat 63)], [], [], [.inr (false, (2, .ofNat 0))], [], [], [])], [], 0, 0)
def cu1609 : List sxCu := [
  (13, (5, [(1, .ofNat 0, .ofNat 51), (2, .negSucc 0, .ofNat 63), (3, .ofNat 0, .ofNat 7), (4, .ofNat 0, .ofNat 64)], [(2, 4, .negSucc 0)], [(0, .inl 0), (1, .inr (false, (1, .ofNat 0))), (2, .inr (false, (2, .ofNat 0))), (3, .inr (false, (3, .ofNat 0))), (4, .inr (false, (4, .ofNat 0)))], [], [], [], []), ((0, 4, .ofNat 64), (0, 0, .ofNat 0), (0, 0, .ofNat 0)), 0, 0)]
set_option maxRecDepth 1000000 in
theorem cv1609 {gh : sxGh} (hg : sxGd sxKw gh) : sxCtV sxKw gh ct1609 := sxMeB_ok (cts := [ct1608, ct1607, ct970]) (cuts := cu1609) (sp := []) 168 (by decide +kernel) hg (by decide) (by decide) (List.forall_mem_cons.mpr ⟨cv1608 hg, (List.forall_mem_cons.mpr ⟨cv1607 hg, (List.forall_mem_cons.mpr ⟨cv970 hg, (fun _ h => absurd h List.not_mem_nil)⟩)⟩)⟩)
/-- LotBeliefsModel.asks -/
def ct1610 : sxCt := (306, 2, (2, [(1, .ofNat 0, .ofNat 51)], [], [(0, .inl 78), (1, .inr (false, (1, .ofNat 0)))], [], [], [], []), [(78, 1)], [
  (3, [(2, .negSucc 0, .ofNat 63)], [], [], [.inr (false, (2, .ofNat 0))], [(78, (0, .ofNat 0), .inr (false, (0, .ofNat 0)))], [], [])], [], 0, 0)
def cu1610 : List sxCu := [
  (67, (7, [(1, .ofNat 0, .ofNat 51), (2, .negSucc 9223372036854775807, .ofNat 9223372036854775807), (3, .ofNat 0, .ofNat 63), (4, .ofNat 0, .ofNat 64), (5, .ofNat 0, .ofNat 6), (6, .ofNat 0, .ofNat 63)], [], [(0, .inl 78), (1, .inr (false, (1, .ofNat 0))), (2, .inr (true, (2, .ofNat 0))), (4, .inr (false, (3, .ofNat 0))), (5, .inr (false, (4, .ofNat 0)))], [], [(78, (0, .ofNat 0), .inr (false, (0, .ofNat 0))), (78, (0, .ofNat 12), .inl 82), (78, (0, .ofNat 19), .inl 89), (82, (0, .ofNat 0), .inr (false, (5, .ofNat 0))), (82, (0, .ofNat 4), .inr (false, (6, .ofNat 0)))], [], []), ((0, 4, .ofNat 64), (0, 0, .ofNat 7), (0, 0, .ofNat 0)), 0, 0), 
  (91, (9, [(1, .ofNat 0, .ofNat 51), (2, .negSucc 9223372036854775807, .ofNat 9223372036854775807), (3, .ofNat 0, .ofNat 63), (4, .ofNat 0, .ofNat 63), (5, .negSucc 9223372036854775807, .ofNat 9223372036854775807), (6, .ofNat 0, .ofNat 6), (7, .ofNat 0, .ofNat 6), (8, .ofNat 0, .ofNat 63)], [], [(0, .inl 78), (1, .inr (false, (1, .ofNat 0))), (2, .inr (true, (2, .ofNat 0))), (4, .inr (false, (3, .ofNat 0))), (5, .inr (false, (4, .ofNat 0))), (6, .inr (true, (5, .ofNat 0))), (8, .inr (false, (6, .ofNat 0)))], [], [(78, (0, .ofNat 0), .inr (false, (0, .ofNat 0))), (78, (0, .ofNat 12), .inl 82), (78, (0, .ofNat 19), .inl 89), (82, (0, .ofNat 0), .inr (false, (7, .ofNat 0))), (82, (0, .ofNat 4), .inr (false, (8, .ofNat 0)))], [], []), ((0, 4, .ofNat 64), (0, 6, .ofNat 6), (0, 0, .ofNat 0)), 0, 0)]
set_option maxRecDepth 1000000 in
theorem cv1610 {gh : sxGh} (hg : sxGd sxKw gh) : sxCtV sxKw gh ct1610 := sxMeB_ok (cts := [ct1130, ct1075]) (cuts := cu1610) (sp := []) 228 (by decide +kernel) hg (by decide) (by decide) (List.forall_mem_cons.mpr ⟨cv1130 hg, (List.forall_mem_cons.mpr ⟨cv1075 hg, (fun _ h => absurd h List.not_mem_nil)⟩)⟩)
/-- LotBeliefs.Course.seat -/
def ct1611 : sxCt := (4, 0, (2, [(1, .ofNat 0, .ofNat 16)], [], [(0, .inl 38), (1, .inr (false, (1, .ofNat 0)))], [], [], [], []), [(38, 11), (38, 12), (40000043, 0)], [
  (3, [(2, .ofNat 1, .ofNat 17)], [], [], [], [(38, (0, .ofNat 10), .inr (false, (2, .ofNat 0)))], [], [])], [], 0, 0)
def cu1611 : List sxCu := []
set_option maxRecDepth 1000000 in
theorem cv1611 {gh : sxGh} (hg : sxGd sxKw gh) : sxCtV sxKw gh ct1611 := sxMeB_ok (cts := []) (cuts := cu1611) (sp := []) 103 (by decide +kernel) hg (by decide) (by decide) (fun _ h => absurd h List.not_mem_nil)
/-- LotBeliefs.Course.goBack -/
def ct1612 : sxCt := (3, 1, (2, [(1, .ofNat 0, .ofNat 1)], [], [(0, .inl 38), (1, .inl 31), (2, .inr (false, (1, .ofNat 0)))], [], [], [], []), [(38, 11), (38, 12), (39000043, 0)], [
  (3, [(2, .ofNat 0, .ofNat 17)], [], [], [], [(38, (0, .ofNat 10), .inr (false, (2, .ofNat 0)))], [], [])], [], 0, 0)
def cu1612 : List sxCu := [
  (12, (3, [(1, .ofNat 0, .ofNat 1), (2, .ofNat 0, .ofNat 17)], [], [(0, .inl 38), (1, .inl 31), (2, .inr (false, (1, .ofNat 0))), (3, .inr (false, (2, .ofNat 0)))], [], [(38, (0, .ofNat 10), .inr (false, (0, .ofNat 0))), (38, (0, .ofNat 11), .inr (false, (0, .ofNat 0)))], [], []), ((0, 2, .ofNat 19), (0, 0, .ofNat 0), (0, 0, .ofNat 0)), 0, 0), 
  (46, (4, [(1, .ofNat 0, .ofNat 1), (2, .ofNat 0, .ofNat 1), (3, .ofNat 0, .ofNat 17)], [], [(0, .inl 38), (1, .inl 31), (2, .inr (false, (1, .ofNat 0))), (3, .inr (false, (2, .ofNat 0)))], [], [(38, (0, .ofNat 4), .inl 39), (38, (0, .ofNat 10), .inr (false, (3, .ofNat 0)))], [], []), ((0, 2, .ofNat 1), (0, 0, .ofNat 0), (0, 0, .ofNat 0)), 0, 0)]
set_option maxRecDepth 1000000 in
theorem cv1612 {gh : sxGh} (hg : sxGd sxKw gh) : sxCtV sxKw gh ct1612 := sxMeB_ok (cts := [ct1611]) (cuts := cu1612) (sp := []) 125 (by decide +kernel) hg (by decide) (by decide) (List.forall_mem_cons.mpr ⟨cv1611 hg, (fun _ h => absurd h List.not_mem_nil)⟩)
end SXC
