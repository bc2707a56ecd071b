/-! SX: contracts, by program -/
section SXC
/-- LotBeliefs.Survey.bestEnd -/
def ct980 : sxCt := (78, 1, (2, [(1, .ofNat 0, .ofNat 4095)], [], [(0, .inl 62), (1, .inr (false, (1, .ofNat 0)))], [], [], [], []), [], [
  (3, [(2, .ofNat 0, .ofNat 127)], [], [], [.inr (false, (2, .ofNat 0))], [], [], [])], [], 0, 0)
def cu980 : List sxCu := [
  (7, (5, [(1, .ofNat 0, .ofNat 4095), (2, .ofNat 0, .ofNat 127), (3, .negSucc 0, .ofNat 63), (4, .ofNat 0, .ofNat 128)], [(2, 4, .ofNat 0)], [(0, .inl 62), (1, .inr (false, (1, .ofNat 0))), (2, .inr (false, (2, .ofNat 0))), (3, .inr (false, (3, .ofNat 0))), (4, .inr (false, (4, .ofNat 0)))], [], [], [], []), ((0, 4, .ofNat 128), (0, 0, .ofNat 0), (0, 0, .ofNat 0)), 0, 0)]
set_option maxRecDepth 1000000 in
theorem cv980 {gh : sxGh} (hg : sxGd sxKw gh) : sxCtV sxKw gh ct980 := sxMeB_ok (cts := [ct975]) (cuts := cu980) (sp := []) 122 (by decide +kernel) hg (by decide) (by decide) (List.forall_mem_cons.mpr ⟨cv975 hg, (fun _ h => absurd h List.not_mem_nil)⟩)
/-- LotBeliefs.Survey.bestEnd -/
def ct981 : sxCt := (78, 1, (2, [(1, .ofNat 0, .ofNat 4095)], [], [(0, .inl 58), (1, .inr (false, (1, .ofNat 0)))], [], [], [], []), [], [
  (3, [(2, .ofNat 0, .ofNat 127)], [], [], [.inr (false, (2, .ofNat 0))], [], [], [])], [], 0, 0)
def cu981 : List sxCu := [
  (7, (5, [(1, .ofNat 0, .ofNat 4095), (2, .ofNat 0, .ofNat 127), (3, .negSucc 0, .ofNat 63), (4, .ofNat 0, .ofNat 128)], [(2, 4, .ofNat 0)], [(0, .inl 58), (1, .inr (false, (1, .ofNat 0))), (2, .inr (false, (2, .ofNat 0))), (3, .inr (false, (3, .ofNat 0))), (4, .inr (false, (4, .ofNat 0)))], [], [], [], []), ((0, 4, .ofNat 128), (0, 0, .ofNat 0), (0, 0, .ofNat 0)), 0, 0)]
set_option maxRecDepth 1000000 in
theorem cv981 {gh : sxGh} (hg : sxGd sxKw gh) : sxCtV sxKw gh ct981 := sxMeB_ok (cts := [ct975]) (cuts := cu981) (sp := []) 122 (by decide +kernel) hg (by decide) (by decide) (List.forall_mem_cons.mpr ⟨cv975 hg, (fun _ h => absurd h List.not_mem_nil)⟩)
/-- LotBeliefs.Jar.common -/
def ct982 : sxCt := (28, 0, (3, [(1, .ofNat 0, .ofNat 600), (2, .ofNat 0, .ofNat 51)], [], [(0, .inl 3), (1, .inr (false, (1, .ofNat 0))), (2, .inr (false, (2, .ofNat 0)))], [], [], [], []), [], [
  (4, [(3, .negSucc 9223372036854775807, .ofNat 9223372036854775807)], [], [], [.inr (true, (3, .ofNat 0))], [], [], [])], [], 0, 0)
def cu982 : List sxCu := [
  (10, (5, [(1, .ofNat 0, .ofNat 600), (2, .ofNat 0, .ofNat 51), (3, .negSucc 9223372036854775807, .ofNat 9223372036854775807), (4, .ofNat 0, .ofNat 12)], [], [(0, .inl 3), (1, .inr (false, (1, .ofNat 0))), (2, .inr (false, (2, .ofNat 0))), (3, .inr (true, (3, .ofNat 0))), (5, .inr (false, (4, .ofNat 0)))], [], [(3, (0, .ofNat 11), .inl 8)], [], []), ((0, 4, .ofNat 12), (0, 0, .ofNat 0), (0, 0, .ofNat 0)), 0, 0)]
set_option maxRecDepth 1000000 in
theorem cv982 {gh : sxGh} (hg : sxGd sxKw gh) : sxCtV sxKw gh ct982 := sxMeB_ok (cts := []) (cuts := cu982) (sp := []) 90 (by decide +kernel) hg (by decide) (by decide) (fun _ h => absurd h List.not_mem_nil)
/-- LotBeliefsModel.togetherIn -/
def ct983 : sxCt := (274, 0, (3, [(1, .ofNat 0, .ofNat 600), (2, .ofNat 0, .ofNat 51)], [], [(0, .inl 78), (1, .inr (false, (1, .ofNat 0))), (2, .inr (false, (2, .ofNat 0)))], [], [], [], []), [], [
  (4, [(3, .negSucc 9223372036854775807, .ofNat 9223372036854775807)], [], [], [.inr (true, (3, .ofNat 0))], [], [], [])], [], 0, 0)
def cu983 : List sxCu := [
  (10, (5, [(1, .ofNat 0, .ofNat 600), (2, .ofNat 0, .ofNat 51), (3, .negSucc 9223372036854775807, .ofNat 9223372036854775807), (4, .ofNat 0, .ofNat 12)], [], [(0, .inl 78), (1, .inr (false, (1, .ofNat 0))), (2, .inr (false, (2, .ofNat 0))), (3, .inr (true, (3, .ofNat 0))), (5, .inr (false, (4, .ofNat 0)))], [], [(78, (0, .ofNat 19), .inl 89)], [], []), ((0, 4, .ofNat 12), (0, 0, .ofNat 0), (0, 0, .ofNat 0)), 0, 0)]
set_option maxRecDepth 1000000 in
theorem cv983 {gh : sxGh} (hg : sxGd sxKw gh) : sxCtV sxKw gh ct983 := sxMeB_ok (cts := []) (cuts := cu983) (sp := []) 97 (by decide +kernel) hg (by decide) (by decide) (fun _ h => absurd h List.not_mem_nil)
/-- LotBeliefs.Jar.common -/
def ct984 : sxCt := (28, 0, (3, [(1, .ofNat 0, .ofNat 255), (2, .ofNat 0, .ofNat 51)], [], [(0, .inl 3), (1, .inr (false, (1, .ofNat 0))), (2, .inr (false, (2, .ofNat 0)))], [], [], [], []), [], [
  (4, [(3, .negSucc 9223372036854775807, .ofNat 9223372036854775807)], [], [], [.inr (true, (3, .ofNat 0))], [], [], [])], [], 0, 0)
def cu984 : List sxCu := [
  (10, (5, [(1, .ofNat 0, .ofNat 255), (2, .ofNat 0, .ofNat 51), (3, .negSucc 9223372036854775807, .ofNat 9223372036854775807), (4, .ofNat 0, .ofNat 12)], [], [(0, .inl 3), (1, .inr (false, (1, .ofNat 0))), (2, .inr (false, (2, .ofNat 0))), (3, .inr (true, (3, .ofNat 0))), (5, .inr (false, (4, .ofNat 0)))], [], [(3, (0, .ofNat 11), .inl 8)], [], []), ((0, 4, .ofNat 12), (0, 0, .ofNat 0), (0, 0, .ofNat 0)), 0, 0)]
set_option maxRecDepth 1000000 in
theorem cv984 {gh : sxGh} (hg : sxGd sxKw gh) : sxCtV sxKw gh ct984 := sxMeB_ok (cts := []) (cuts := cu984) (sp := []) 90 (by decide +kernel) hg (by decide) (by decide) (fun _ h => absurd h List.not_mem_nil)
/-- LotBeliefsModel.togetherIn -/
def ct985 : sxCt := (274, 0, (3, [(1, .ofNat 0, .ofNat 255), (2, .ofNat 0, .ofNat 51)], [], [(0, .inl 78), (1, .inr (false, (1, .ofNat 0))), (2, .inr (false, (2, .ofNat 0)))], [], [], [], []), [], [
  (4, [(3, .negSucc 9223372036854775807, .ofNat 9223372036854775807)], [], [], [.inr (true, (3, .ofNat 0))], [], [], [])], [], 0, 0)
def cu985 : List sxCu := [
  (10, (5, [(1, .ofNat 0, .ofNat 255), (2, .ofNat 0, .ofNat 51), (3, .negSucc 9223372036854775807, .ofNat 9223372036854775807), (4, .ofNat 0, .ofNat 12)], [], [(0, .inl 78), (1, .inr (false, (1, .ofNat 0))), (2, .inr (false, (2, .ofNat 0))), (3, .inr (true, (3, .ofNat 0))), (5, .inr (false, (4, .ofNat 0)))], [], [(78, (0, .ofNat 19), .inl 89)], [], []), ((0, 4, .ofNat 12), (0, 0, .ofNat 0), (0, 0, .ofNat 0)), 0, 0)]
set_option maxRecDepth 1000000 in
theorem cv985 {gh : sxGh} (hg : sxGd sxKw gh) : sxCtV sxKw gh ct985 := sxMeB_ok (cts := []) (cuts := cu985) (sp := []) 97 (by decide +kernel) hg (by decide) (by decide) (fun _ h => absurd h List.not_mem_nil)
/-- LotBeliefs.Jar.common -/
def ct986 : sxCt := (28, 0, (3, [(1, .ofNat 0, .ofNat 127), (2, .ofNat 0, .ofNat 51)], [], [(0, .inl 3), (1, .inr (false, (1, .ofNat 0))), (2, .inr (false, (2, .ofNat 0)))], [], [], [], []), [], [
  (4, [(3, .negSucc 9223372036854775807, .ofNat 9223372036854775807)], [], [], [.inr (true, (3, .ofNat 0))], [], [], [])], [], 0, 0)
def cu986 : List sxCu := [
  (10, (5, [(1, .ofNat 0, .ofNat 127), (2, .ofNat 0, .ofNat 51), (3, .negSucc 9223372036854775807, .ofNat 9223372036854775807), (4, .ofNat 0, .ofNat 12)], [], [(0, .inl 3), (1, .inr (false, (1, .ofNat 0))), (2, .inr (false, (2, .ofNat 0))), (3, .inr (true, (3, .ofNat 0))), (5, .inr (false, (4, .ofNat 0)))], [], [(3, (0, .ofNat 11), .inl 8)], [], []), ((0, 4, .ofNat 12), (0, 0, .ofNat 0), (0, 0, .ofNat 0)), 0, 0)]
set_option maxRecDepth 1000000 in
theorem cv986 {gh : sxGh} (hg : sxGd sxKw gh) : sxCtV sxKw gh ct986 := sxMeB_ok (cts := []) (cuts := cu986) (sp := []) 90 (by decide +kernel) hg (by decide) (by decide) (fun _ h => absurd h List.not_mem_nil)
/-- LotBeliefsModel.togetherIn -/
def ct987 : sxCt := (274, 0, (3, [(1, .ofNat 0, .ofNat 127), (2, .ofNat 0, .ofNat 51)], [], [(0, .inl 78), (1, .inr (false, (1, .ofNat 0))), (2, .inr (false, (2, .ofNat 0)))], [], [], [], []), [], [
  (4, [(3, .negSucc 9223372036854775807, .ofNat 9223372036854775807)], [], [], [.inr (true, (3, .ofNat 0))], [], [], [])], [], 0, 0)
def cu987 : List sxCu := [
  (10, (5, [(1, .ofNat 0, .ofNat 127), (2, .ofNat 0, .ofNat 51), (3, .negSucc 9223372036854775807, .ofNat 9223372036854775807), (4, .ofNat 0, .ofNat 12)], [], [(0, .inl 78), (1, .inr (false, (1, .ofNat 0))), (2, .inr (false, (2, .ofNat 0))), (3, .inr (true, (3, .ofNat 0))), (5, .inr (false, (4, .ofNat 0)))], [], [(78, (0, .ofNat 19), .inl 89)], [], []), ((0, 4, .ofNat 12), (0, 0, .ofNat 0), (0, 0, .ofNat 0)), 0, 0)]
set_option maxRecDepth 1000000 in
theorem cv987 {gh : sxGh} (hg : sxGd sxKw gh) : sxCtV sxKw gh ct987 := sxMeB_ok (cts := []) (cuts := cu987) (sp := []) 97 (by decide +kernel) hg (by decide) (by decide) (fun _ h => absurd h List.not_mem_nil)
/-- LotBeliefs.Jar.common -/
def ct988 : sxCt := (28, 0, (3, [(1, .ofNat 0, .ofNat 63), (2, .ofNat 0, .ofNat 51)], [], [(0, .inl 3), (1, .inr (false, (1, .ofNat 0))), (2, .inr (false, (2, .ofNat 0)))], [], [], [], []), [], [
  (4, [(3, .negSucc 9223372036854775807, .ofNat 9223372036854775807)], [], [], [.inr (true, (3, .ofNat 0))], [], [], [])], [], 0, 0)
def cu988 : List sxCu := [
  (10, (5, [(1, .ofNat 0, .ofNat 63), (2, .ofNat 0, .ofNat 51), (3, .negSucc 9223372036854775807, .ofNat 9223372036854775807), (4, .ofNat 0, .ofNat 12)], [], [(0, .inl 3), (1, .inr (false, (1, .ofNat 0))), (2, .inr (false, (2, .ofNat 0))), (3, .inr (true, (3, .ofNat 0))), (5, .inr (false, (4, .ofNat 0)))], [], [(3, (0, .ofNat 11), .inl 8)], [], []), ((0, 4, .ofNat 12), (0, 0, .ofNat 0), (0, 0, .ofNat 0)), 0, 0)]
set_option maxRecDepth 1000000 in
theorem cv988 {gh : sxGh} (hg : sxGd sxKw gh) : sxCtV sxKw gh ct988 := sxMeB_ok (cts := []) (cuts := cu988) (sp := []) 90 (by decide +kernel) hg (by decide) (by decide) (fun _ h => absurd h List.not_mem_nil)
/-- LotBeliefsModel.togetherIn -/
def ct989 : sxCt := (274, 0, (3, [(1, .ofNat 0, .ofNat 63), (2, .ofNat 0, .ofNat 51)], [], [(0, .inl 78), (1, .inr (false, (1, .ofNat 0))), (2, .inr (false, (2, .ofNat 0)))], [], [], [], []), [], [
  (4, [(3, .negSucc 9223372036854775807, .ofNat 9223372036854775807)], [], [], [.inr (true, (3, .ofNat 0))], [], [], [])], [], 0, 0)
def cu989 : List sxCu := [
  (10, (5, [(1, .ofNat 0, .ofNat 63), (2, .ofNat 0, .ofNat 51), (3, .negSucc 9223372036854775807, .ofNat 9223372036854775807), (4, .ofNat 0, .ofNat 12)], [], [(0, .inl 78), (1, .inr (false, (1, .ofNat 0))), (2, .inr (false, (2, .ofNat 0))), (3, .inr (true, (3, .ofNat 0))), (5, .inr (false, (4, .ofNat 0)))], [], [(78, (0, .ofNat 19), .inl 89)], [], []), ((0, 4, .ofNat 12), (0, 0, .ofNat 0), (0, 0, .ofNat 0)), 0, 0)]
set_option maxRecDepth 1000000 in
theorem cv989 {gh : sxGh} (hg : sxGd sxKw gh) : sxCtV sxKw gh ct989 := sxMeB_ok (cts := []) (cuts := cu989) (sp := []) 97 (by decide +kernel) hg (by decide) (by decide) (fun _ h => absurd h List.not_mem_nil)
/-- LotBeliefs.Jar.common -/
def ct990 : sxCt := (28, 0, (3, [(1, .ofNat 0, .ofNat 39), (2, .ofNat 0, .ofNat 51)], [], [(0, .inl 3), (1, .inr (false, (1, .ofNat 0))), (2, .inr (false, (2, .ofNat 0)))], [], [], [], []), [], [
  (4, [(3, .negSucc 9223372036854775807, .ofNat 9223372036854775807)], [], [], [.inr (true, (3, .ofNat 0))], [], [], [])], [], 0, 0)
def cu990 : List sxCu := [
  (10, (5, [(1, .ofNat 0, .ofNat 39), (2, .ofNat 0, .ofNat 51), (3, .negSucc 9223372036854775807, .ofNat 9223372036854775807), (4, .ofNat 0, .ofNat 12)], [], [(0, .inl 3), (1, .inr (false, (1, .ofNat 0))), (2, .inr (false, (2, .ofNat 0))), (3, .inr (true, (3, .ofNat 0))), (5, .inr (false, (4, .ofNat 0)))], [], [(3, (0, .ofNat 11), .inl 8)], [], []), ((0, 4, .ofNat 12), (0, 0, .ofNat 0), (0, 0, .ofNat 0)), 0, 0)]
set_option maxRecDepth 1000000 in
theorem cv990 {gh : sxGh} (hg : sxGd sxKw gh) : sxCtV sxKw gh ct990 := sxMeB_ok (cts := []) (cuts := cu990) (sp := []) 90 (by decide +kernel) hg (by decide) (by decide) (fun _ h => absurd h List.not_mem_nil)
/-- LotBeliefsModel.togetherIn -/
def ct991 : sxCt := (274, 0, (3, [(1, .ofNat 0, .ofNat 39), (2, .ofNat 0, .ofNat 51)], [], [(0, .inl 78), (1, .inr (false, (1, .ofNat 0))), (2, .inr (false, (2, .ofNat 0)))], [], [], [], []), [], [
  (4, [(3, .negSucc 9223372036854775807, .ofNat 9223372036854775807)], [], [], [.inr (true, (3, .ofNat 0))], [], [], [])], [], 0, 0)
def cu991 : List sxCu := [
  (10, (5, [(1, .ofNat 0, .ofNat 39), (2, .ofNat 0, .ofNat 51), (3, .negSucc 9223372036854775807, .ofNat 9223372036854775807), (4, .ofNat 0, .ofNat 12)], [], [(0, .inl 78), (1, .inr (false, (1, .ofNat 0))), (2, .inr (false, (2, .ofNat 0))), (3, .inr (true, (3, .ofNat 0))), (5, .inr (false, (4, .ofNat 0)))], [], [(78, (0, .ofNat 19), .inl 89)], [], []), ((0, 4, .ofNat 12), (0, 0, .ofNat 0), (0, 0, .ofNat 0)), 0, 0)]
set_option maxRecDepth 1000000 in
theorem cv991 {gh : sxGh} (hg : sxGd sxKw gh) : sxCtV sxKw gh ct991 := sxMeB_ok (cts := []) (cuts := cu991) (sp := []) 97 (by decide +kernel) hg (by decide) (by decide) (fun _ h => absurd h List.not_mem_nil)
/-- LotBeliefs.Jar.common -/
def ct992 : sxCt := (28, 0, (3, [(1, .ofNat 0, .ofNat 15), (2, .ofNat 0, .ofNat 51)], [], [(0, .inl 3), (1, .inr (false, (1, .ofNat 0))), (2, .inr (false, (2, .ofNat 0)))], [], [], [], []), [], [
  (4, [(3, .negSucc 9223372036854775807, .ofNat 9223372036854775807)], [], [], [.inr (true, (3, .ofNat 0))], [], [], [])], [], 0, 0)
def cu992 : List sxCu := [
  (10, (5, [(1, .ofNat 0, .ofNat 15), (2, .ofNat 0, .ofNat 51), (3, .negSucc 9223372036854775807, .ofNat 9223372036854775807), (4, .ofNat 0, .ofNat 12)], [], [(0, .inl 3), (1, .inr (false, (1, .ofNat 0))), (2, .inr (false, (2, .ofNat 0))), (3, .inr (true, (3, .ofNat 0))), (5, .inr (false, (4, .ofNat 0)))], [], [(3, (0, .ofNat 11), .inl 8)], [], []), ((0, 4, .ofNat 12), (0, 0, .ofNat 0), (0, 0, .ofNat 0)), 0, 0)]
set_option maxRecDepth 1000000 in
theorem cv992 {gh : sxGh} (hg : sxGd sxKw gh) : sxCtV sxKw gh ct992 := sxMeB_ok (cts := []) (cuts := cu992) (sp := []) 90 (by decide +kernel) hg (by decide) (by decide) (fun _ h => absurd h List.not_mem_nil)
/-- LotBeliefsModel.togetherIn -/
def ct993 : sxCt := (274, 0, (3, [(1, .ofNat 0, .ofNat 15), (2, .ofNat 0, .ofNat 51)], [], [(0, .inl 78), (1, .inr (false, (1, .ofNat 0))), (2, .inr (false, (2, .ofNat 0)))], [], [], [], []), [], [
  (4, [(3, .negSucc 9223372036854775807, .ofNat 9223372036854775807)], [], [], [.inr (true, (3, .ofNat 0))], [], [], [])], [], 0, 0)
def cu993 : List sxCu := [
  (10, (5, [(1, .ofNat 0, .ofNat 15), (2, .ofNat 0, .ofNat 51), (3, .negSucc 9223372036854775807, .ofNat 9223372036854775807), (4, .ofNat 0, .ofNat 12)], [], [(0, .inl 78), (1, .inr (false, (1, .ofNat 0))), (2, .inr (false, (2, .ofNat 0))), (3, .inr (true, (3, .ofNat 0))), (5, .inr (false, (4, .ofNat 0)))], [], [(78, (0, .ofNat 19), .inl 89)], [], []), ((0, 4, .ofNat 12), (0, 0, .ofNat 0), (0, 0, .ofNat 0)), 0, 0)]
set_option maxRecDepth 1000000 in
theorem cv993 {gh : sxGh} (hg : sxGd sxKw gh) : sxCtV sxKw gh ct993 := sxMeB_ok (cts := []) (cuts := cu993) (sp := []) 97 (by decide +kernel) hg (by decide) (by decide) (fun _ h => absurd h List.not_mem_nil)
/-- LotBeliefs.Jar.common -/
def ct994 : sxCt := (28, 0, (3, [(1, .ofNat 0, .ofNat 7), (2, .ofNat 0, .ofNat 51)], [], [(0, .inl 3), (1, .inr (false, (1, .ofNat 0))), (2, .inr (false, (2, .ofNat 0)))], [], [], [], []), [], [
  (4, [(3, .negSucc 9223372036854775807, .ofNat 9223372036854775807)], [], [], [.inr (true, (3, .ofNat 0))], [], [], [])], [], 0, 0)
def cu994 : List sxCu := [
  (10, (5, [(1, .ofNat 0, .ofNat 7), (2, .ofNat 0, .ofNat 51), (3, .negSucc 9223372036854775807, .ofNat 9223372036854775807), (4, .ofNat 0, .ofNat 12)], [], [(0, .inl 3), (1, .inr (false, (1, .ofNat 0))), (2, .inr (false, (2, .ofNat 0))), (3, .inr (true, (3, .ofNat 0))), (5, .inr (false, (4, .ofNat 0)))], [], [(3, (0, .ofNat 11), .inl 8)], [], []), ((0, 4, .ofNat 12), (0, 0, .ofNat 0), (0, 0, .ofNat 0)), 0, 0)]
set_option maxRecDepth 1000000 in
theorem cv994 {gh : sxGh} (hg : sxGd sxKw gh) : sxCtV sxKw gh ct994 := sxMeB_ok (cts := []) (cuts := cu994) (sp := []) 90 (by decide +kernel) hg (by decide) (by decide) (fun _ h => absurd h List.not_mem_nil)
/-- LotBeliefsModel.togetherIn -/
def ct995 : sxCt := (274, 0, (3, [(1, .ofNat 0, .ofNat 7), (2, .ofNat 0, .ofNat 51)], [], [(0, .inl 78), (1, .inr (false, (1, .ofNat 0))), (2, .inr (false, (2, .ofNat 0)))], [], [], [], []), [], [
  (4, [(3, .negSucc 9223372036854775807, .ofNat 9223372036854775807)], [], [], [.inr (true, (3, .ofNat 0))], [], [], [])], [], 0, 0)
def cu995 : List sxCu := [
  (10, (5, [(1, .ofNat 0, .ofNat 7), (2, .ofNat 0, .ofNat 51), (3, .negSucc 9223372036854775807, .ofNat 9223372036854775807), (4, .ofNat 0, .ofNat 12)], [], [(0, .inl 78), (1, .inr (false, (1, .ofNat 0))), (2, .inr (false, (2, .ofNat 0))), (3, .inr (true, (3, .ofNat 0))), (5, .inr (false, (4, .ofNat 0)))], [], [(78, (0, .ofNat 19), .inl 89)], [], []), ((0, 4, .ofNat 12), (0, 0, .ofNat 0), (0, 0, .ofNat 0)), 0, 0)]
set_option maxRecDepth 1000000 in
theorem cv995 {gh : sxGh} (hg : sxGd sxKw gh) : sxCtV sxKw gh ct995 := sxMeB_ok (cts := []) (cuts := cu995) (sp := []) 97 (by decide +kernel) hg (by decide) (by decide) (fun _ h => absurd h List.not_mem_nil)
/-- LotBeliefs.Jar.common -/
def ct996 : sxCt := (28, 0, (3, [(1, .ofNat 0, .ofNat 3), (2, .ofNat 0, .ofNat 51)], [], [(0, .inl 3), (1, .inr (false, (1, .ofNat 0))), (2, .inr (false, (2, .ofNat 0)))], [], [], [], []), [], [
  (4, [(3, .negSucc 9223372036854775807, .ofNat 9223372036854775807)], [], [], [.inr (true, (3, .ofNat 0))], [], [], [])], [], 0, 0)
def cu996 : List sxCu := [
  (10, (5, [(1, .ofNat 0, .ofNat 3), (2, .ofNat 0, .ofNat 51), (3, .negSucc 9223372036854775807, .ofNat 9223372036854775807), (4, .ofNat 0, .ofNat 12)], [], [(0, .inl 3), (1, .inr (false, (1, .ofNat 0))), (2, .inr (false, (2, .ofNat 0))), (3, .inr (true, (3, .ofNat 0))), (5, .inr (false, (4, .ofNat 0)))], [], [(3, (0, .ofNat 11), .inl 8)], [], []), ((0, 4, .ofNat 12), (0, 0, .ofNat 0), (0, 0, .ofNat 0)), 0, 0)]
set_option maxRecDepth 1000000 in
theorem cv996 {gh : sxGh} (hg : sxGd sxKw gh) : sxCtV sxKw gh ct996 := sxMeB_ok (cts := []) (cuts := cu996) (sp := []) 90 (by decide +kernel) hg (by decide) (by decide) (fun _ h => absurd h List.not_mem_nil)
/-- LotBeliefsModel.togetherIn -/
def ct997 : sxCt := (274, 0, (3, [(1, .ofNat 0, .ofNat 3), (2, .ofNat 0, .ofNat 51)], [], [(0, .inl 78), (1, .inr (false, (1, .ofNat 0))), (2, .inr (false, (2, .ofNat 0)))], [], [], [], []), [], [
  (4, [(3, .negSucc 9223372036854775807, .ofNat 9223372036854775807)], [], [], [.inr (true, (3, .ofNat 0))], [], [], [])], [], 0, 0)
def cu997 : List sxCu := [
  (10, (5, [(1, .ofNat 0, .ofNat 3), (2, .ofNat 0, .ofNat 51), (3, .negSucc 9223372036854775807, .ofNat 9223372036854775807), (4, .ofNat 0, .ofNat 12)], [], [(0, .inl 78), (1, .inr (false, (1, .ofNat 0))), (2, .inr (false, (2, .ofNat 0))), (3, .inr (true, (3, .ofNat 0))), (5, .inr (false, (4, .ofNat 0)))], [], [(78, (0, .ofNat 19), .inl 89)], [], []), ((0, 4, .ofNat 12), (0, 0, .ofNat 0), (0, 0, .ofNat 0)), 0, 0)]
set_option maxRecDepth 1000000 in
theorem cv997 {gh : sxGh} (hg : sxGd sxKw gh) : sxCtV sxKw gh ct997 := sxMeB_ok (cts := []) (cuts := cu997) (sp := []) 97 (by decide +kernel) hg (by decide) (by decide) (fun _ h => absurd h List.not_mem_nil)
/-- LotBeliefs.Jar.common -/
def ct998 : sxCt := (28, 0, (3, [(1, .ofNat 0, .ofNat 1), (2, .ofNat 0, .ofNat 51)], [], [(0, .inl 3), (1, .inr (false, (1, .ofNat 0))), (2, .inr (false, (2, .ofNat 0)))], [], [], [], []), [], [
  (4, [(3, .negSucc 9223372036854775807, .ofNat 9223372036854775807)], [], [], [.inr (true, (3, .ofNat 0))], [], [], [])], [], 0, 0)
def cu998 : List sxCu := [
  (10, (5, [(1, .ofNat 0, .ofNat 1), (2, .ofNat 0, .ofNat 51), (3, .negSucc 9223372036854775807, .ofNat 9223372036854775807), (4, .ofNat 0, .ofNat 12)], [], [(0, .inl 3), (1, .inr (false, (1, .ofNat 0))), (2, .inr (false, (2, .ofNat 0))), (3, .inr (true, (3, .ofNat 0))), (5, .inr (false, (4, .ofNat 0)))], [], [(3, (0, .ofNat 11), .inl 8)], [], []), ((0, 4, .ofNat 12), (0, 0, .ofNat 0), (0, 0, .ofNat 0)), 0, 0)]
set_option maxRecDepth 1000000 in
theorem cv998 {gh : sxGh} (hg : sxGd sxKw gh) : sxCtV sxKw gh ct998 := sxMeB_ok (cts := []) (cuts := cu998) (sp := []) 90 (by decide +kernel) hg (by decide) (by decide) (fun _ h => absurd h List.not_mem_nil)
/-- LotBeliefsModel.togetherIn -/
def ct999 : sxCt := (274, 0, (3, [(1, .ofNat 0, .ofNat 1), (2, .ofNat 0, .ofNat 51)], [], [(0, .inl 78), (1, .inr (false, (1, .ofNat 0))), (2, .inr (false, (2, .ofNat 0)))], [], [], [], []), [], [
  (4, [(3, .negSucc 9223372036854775807, .ofNat 9223372036854775807)], [], [], [.inr (true, (3, .ofNat 0))], [], [], [])], [], 0, 0)
def cu999 : List sxCu := [
  (10, (5, [(1, .ofNat 0, .ofNat 1), (2, .ofNat 0, .ofNat 51), (3, .negSucc 9223372036854775807, .ofNat 9223372036854775807), (4, .ofNat 0, .ofNat 12)], [], [(0, .inl 78), (1, .inr (false, (1, .ofNat 0))), (2, .inr (false, (2, .ofNat 0))), (3, .inr (true, (3, .ofNat 0))), (5, .inr (false, (4, .ofNat 0)))], [], [(78, (0, .ofNat 19), .inl 89)], [], []), ((0, 4, .ofNat 12), (0, 0, .ofNat 0), (0, 0, .ofNat 0)), 0, 0)]
set_option maxRecDepth 1000000 in
theorem cv999 {gh : sxGh} (hg : sxGd sxKw gh) : sxCtV sxKw gh ct999 := sxMeB_ok (cts := []) (cuts := cu999) (sp := []) 97 (by decide +kernel) hg (by decide) (by decide) (fun _ h => absurd h List.not_mem_nil)
/-- LotBeliefs.Subsets.fill -/
def ct1000 : sxCt := (58, 0, (2, [(1, .ofNat 0, .ofNat 51)], [], [(0, .inl 45), (1, .inl 3), (2, .inr (false, (1, .ofNat 0)))], [], [], [], []), [(45, 2), (45, 3), (46, 0)], [
  (5, [(2, .ofNat 0, .ofNat 12), (3, .ofNat 1, .ofNat 4096), (4, .negSucc 9223372036854775807, .ofNat 9223372036854775807)], [], [], [], [(45, (0, .ofNat 1), .inr (false, (2, .ofNat 0))), (45, (0, .ofNat 2), .inr (false, (3, .ofNat 0))), (46, (0, .ofNat 0), .inr (true, (4, .ofNat 0)))], [], [])], [], 0, 0)
def cu1000 : List sxCu := [
  (40, (6, [(1, .ofNat 0, .ofNat 51), (2, .ofNat 0, .ofNat 12), (3, .ofNat 0, .ofNat 12), (4, .ofNat 1, .ofNat 4096), (5, .negSucc 9223372036854775807, .ofNat 9223372036854775807)], [], [(0, .inl 45), (1, .inl 3), (2, .inr (false, (1, .ofNat 0))), (3, .inr (false, (2, .ofNat 0)))], [], [(3, (0, .ofNat 2), .inr (false, (3, .ofNat 0))), (3, (0, .ofNat 11), .inl 8), (45, (0, .ofNat 0), .inl 46), (45, (0, .ofNat 1), .inr (false, (3, .ofNat 0))), (45, (0, .ofNat 2), .inr (false, (4, .ofNat 0))), (46, (0, .ofNat 0), .inr (true, (5, .ofNat 0)))], [], []), ((0, 2, .ofNat 12), (0, 0, .ofNat 4096), (0, 0, .ofNat 0)), 0, 0), 
  (56, (8, [(1, .ofNat 0, .ofNat 51), (2, .ofNat 0, .ofNat 11), (3, .ofNat 1, .ofNat 4095), (4, .ofNat 0, .ofNat 4095), (5, .ofNat 1, .ofNat 12), (6, .ofNat 1, .ofNat 4096), (7, .negSucc 9223372036854775807, .ofNat 9223372036854775807)], [(2, 5, .negSucc 0)], [(0, .inl 45), (1, .inl 3), (2, .inr (false, (1, .ofNat 0))), (3, .inr (false, (2, .ofNat 0))), (4, .inr (false, (3, .ofNat 0))), (5, .inr (false, (4, .ofNat 0)))], [], [(3, (0, .ofNat 2), .inr (false, (5, .ofNat 0))), (3, (0, .ofNat 11), .inl 8), (45, (0, .ofNat 0), .inl 46), (45, (0, .ofNat 1), .inr (false, (5, .ofNat 0))), (45, (0, .ofNat 2), .inr (false, (6, .ofNat 0))), (46, (0, .ofNat 0), .inr (true, (7, .ofNat 0)))], [], []), ((0, 2, .ofNat 12), (0, 4, .ofNat 4095), (0, 0, .ofNat 0)), 0, 0)]
set_option maxRecDepth 1000000 in
theorem cv1000 {gh : sxGh} (hg : sxGd sxKw gh) : sxCtV sxKw gh ct1000 := sxMeB_ok (cts := []) (cuts := cu1000) (sp := []) 126 (by decide +kernel) hg (by decide) (by decide) (fun _ h => absurd h List.not_mem_nil)
/-- LotBeliefs.Subsets.core -/
def ct1005 : sxCt := (61, 1, (1, [], [], [(0, .inl 45)], [], [], [], []), [], [
  (2, [(1, .negSucc 0, .ofNat 4095)], [], [], [.inr (false, (1, .ofNat 0))], [], [], [])], [], 0, 0)
def cu1005 : List sxCu := [
  (7, (4, [(1, .negSucc 0, .ofNat 4095), (2, .ofNat 0, .ofNat 63), (3, .ofNat 0, .ofNat 4096)], [(1, 3, .negSucc 0)], [(0, .inl 45), (1, .inr (false, (1, .ofNat 0))), (2, .inr (false, (2, .ofNat 0))), (3, .inr (false, (3, .ofNat 0)))], [], [], [], []), ((0, 3, .ofNat 4096), (0, 0, .ofNat 0), (0, 0, .ofNat 0)), 0, 0)]
set_option maxRecDepth 1000000 in
theorem cv1005 {gh : sxGh} (hg : sxGd sxKw gh) : sxCtV sxKw gh ct1005 := sxMeB_ok (cts := [ct460]) (cuts := cu1005) (sp := []) 100 (by decide +kernel) hg (by decide) (by decide) (List.forall_mem_cons.mpr ⟨cv460 hg, (fun _ h => absurd h List.not_mem_nil)⟩)
/-- LotBeliefsModel.ones -/
def ct1044 : sxCt := (224, 0, (2, [(1, .ofNat 0, .ofNat 39)], [], [(0, .inr (true, (1, .ofNat 0)))], [], [], [], []), [], [
  (3, [(2, .negSucc 2147483647, .ofNat 2147483647)], [], [], [.inr (false, (2, .ofNat 0))], [], [], [])], [], 0, 0)
def cu1044 : List sxCu := [
  (4, (4, [(1, .ofNat 0, .ofNat 39), (2, .negSucc 2147483647, .ofNat 2147483647), (3, .ofNat 0, .ofNat 64)], [], [(0, .inr (true, (1, .ofNat 0))), (2, .inr (false, (2, .ofNat 0))), (3, .inr (false, (3, .ofNat 0)))], [], [], [], []), ((0, 3, .ofNat 64), (0, 0, .ofNat 0), (0, 0, .ofNat 0)), 0, 0)]
set_option maxRecDepth 1000000 in
theorem cv1044 {gh : sxGh} (hg : sxGd sxKw gh) : sxCtV sxKw gh ct1044 := sxMeB_ok (cts := []) (cuts := cu1044) (sp := []) 80 (by decide +kernel) hg (by decide) (by decide) (fun _ h => absurd h List.not_mem_nil)
/-- LotBeliefsModel.ones -/
def ct1060 : sxCt := (224, 0, (2, [(1, .ofNat 0, .ofNat 63)], [], [(0, .inr (true, (1, .ofNat 0)))], [], [], [], []), [], [
  (3, [(2, .negSucc 2147483647, .ofNat 2147483647)], [], [], [.inr (false, (2, .ofNat 0))], [], [], [])], [], 0, 0)
def cu1060 : List sxCu := [
  (4, (4, [(1, .ofNat 0, .ofNat 63), (2, .negSucc 2147483647, .ofNat 2147483647), (3, .ofNat 0, .ofNat 64)], [], [(0, .inr (true, (1, .ofNat 0))), (2, .inr (false, (2, .ofNat 0))), (3, .inr (false, (3, .ofNat 0)))], [], [], [], []), ((0, 3, .ofNat 64), (0, 0, .ofNat 0), (0, 0, .ofNat 0)), 0, 0)]
set_option maxRecDepth 1000000 in
theorem cv1060 {gh : sxGh} (hg : sxGd sxKw gh) : sxCtV sxKw gh ct1060 := sxMeB_ok (cts := []) (cuts := cu1060) (sp := []) 80 (by decide +kernel) hg (by decide) (by decide) (fun _ h => absurd h List.not_mem_nil)
/-- LotBeliefsModel.isWhole -/
def ct1074 : sxCt := (299, 1, (3, [(1, .ofNat 0, .ofNat 4095), (2, .ofNat 0, .ofNat 51)], [], [(0, .inl 78), (1, .inr (false, (1, .ofNat 0))), (2, .inr (false, (2, .ofNat 0)))], [], [], [], []), [], [
  (3, [], [], [], [.inr (false, (0, .ofNat 0))], [], [], []), 
  (3, [], [], [], [.inr (false, (0, .ofNat 1))], [], [], [])], [], 0, 0)
def cu1074 : List sxCu := [
  (15, (4, [(1, .ofNat 0, .ofNat 4095), (2, .ofNat 0, .ofNat 51), (3, .ofNat 0, .ofNat 12)], [], [(0, .inl 78), (1, .inr (false, (1, .ofNat 0))), (2, .inr (false, (2, .ofNat 0))), (3, .inr (false, (3, .ofNat 0)))], [], [], [], []), ((0, 3, .ofNat 12), (0, 0, .ofNat 0), (0, 0, .ofNat 0)), 0, 0)]
set_option maxRecDepth 1000000 in
theorem cv1074 {gh : sxGh} (hg : sxGd sxKw gh) : sxCtV sxKw gh ct1074 := sxMeB_ok (cts := [ct459]) (cuts := cu1074) (sp := []) 112 (by decide +kernel) hg (by decide) (by decide) (List.forall_mem_cons.mpr ⟨cv459 hg, (fun _ h => absurd h List.not_mem_nil)⟩)
/-- LotBeliefsModel.sets -/
def ct1075 : sxCt := (300, 2, (3, [(1, .ofNat 0, .ofNat 51), (2, .ofNat 0, .ofNat 3)], [], [(0, .inl 78), (1, .inr (false, (1, .ofNat 0))), (2, .inr (false, (2, .ofNat 0)))], [], [], [], []), [(78, 1)], [
  (4, [(3, .negSucc 0, .ofNat 4096)], [], [], [.inr (false, (3, .ofNat 0))], [(78, (0, .ofNat 0), .inr (false, (0, .ofNat 0)))], [], [])], [], 0, 0)
def cu1075 : List sxCu := [
  (51, (8, [(1, .ofNat 0, .ofNat 51), (2, .ofNat 0, .ofNat 3), (3, .ofNat 0, .ofNat 4096), (4, .negSucc 0, .ofNat 4095), (5, .ofNat 0, .ofNat 4096), (6, .negSucc 0, .ofNat 4095), (7, .ofNat 0, .ofNat 4096)], [(3, 7, .ofNat 0), (4, 7, .negSucc 0), (5, 3, .ofNat 0), (5, 7, .ofNat 0), (6, 7, .negSucc 0)], [(0, .inl 78), (1, .inr (false, (1, .ofNat 0))), (2, .inr (false, (2, .ofNat 0))), (3, .inr (false, (3, .ofNat 0))), (4, .inr (false, (4, .ofNat 0))), (5, .inr (false, (5, .ofNat 0))), (6, .inr (false, (6, .ofNat 0))), (7, .inr (false, (7, .ofNat 0)))], [], [(78, (0, .ofNat 0), .inr (false, (0, .ofNat 0)))], [], []), ((0, 7, .ofNat 4096), (0, 0, .ofNat 0), (0, 0, .ofNat 0)), 0, 0)]
set_option maxRecDepth 1000000 in
theorem cv1075 {gh : sxGh} (hg : sxGd sxKw gh) : sxCtV sxKw gh ct1075 := sxMeB_ok (cts := [ct461, ct459, ct1074]) (cuts := cu1075) (sp := []) 426 (by decide +kernel) hg (by decide) (by decide) (List.forall_mem_cons.mpr ⟨cv461 hg, (List.forall_mem_cons.mpr ⟨cv459 hg, (List.forall_mem_cons.mpr ⟨cv1074 hg, (fun _ h => absurd h List.not_mem_nil)⟩)⟩)⟩)
/-- LotBeliefs.Subsets.isWhole -/
def ct1101 : sxCt := (65, 0, (2, [(1, .ofNat 0, .ofNat 4095)], [], [(0, .inl 45), (1, .inr (false, (1, .ofNat 0)))], [], [], [], []), [], [
  (2, [], [], [], [.inr (false, (0, .ofNat 0))], [], [], []), 
  (2, [], [], [], [.inr (false, (0, .ofNat 1))], [], [], [])], [], 0, 0)
def cu1101 : List sxCu := [
  (15, (3, [(1, .ofNat 0, .ofNat 4095), (2, .ofNat 0, .ofNat 12)], [], [(0, .inl 45), (1, .inr (false, (1, .ofNat 0))), (2, .inr (false, (2, .ofNat 0)))], [], [(45, (0, .ofNat 0), .inl 46)], [], []), ((0, 2, .ofNat 12), (0, 0, .ofNat 0), (0, 0, .ofNat 0)), 0, 0)]
set_option maxRecDepth 1000000 in
theorem cv1101 {gh : sxGh} (hg : sxGd sxKw gh) : sxCtV sxKw gh ct1101 := sxMeB_ok (cts := []) (cuts := cu1101) (sp := []) 112 (by decide +kernel) hg (by decide) (by decide) (fun _ h => absurd h List.not_mem_nil)
/-- LotBeliefs.Subsets.wholes -/
def ct1102 : sxCt := (63, 1, (1, [], [], [(0, .inl 45)], [], [], [], []), [], [
  (2, [(1, .ofNat 0, .ofNat 4096)], [], [], [.inr (false, (1, .ofNat 0))], [], [], [])], [], 0, 0)
def cu1102 : List sxCu := [
  (4, (3, [(1, .ofNat 0, .ofNat 4096), (2, .ofNat 0, .ofNat 4096)], [(1, 2, .ofNat 0)], [(0, .inl 45), (1, .inr (false, (1, .ofNat 0))), (2, .inr (false, (2, .ofNat 0)))], [], [], [], []), ((0, 2, .ofNat 4096), (0, 0, .ofNat 0), (0, 0, .ofNat 0)), 0, 0)]
set_option maxRecDepth 1000000 in
theorem cv1102 {gh : sxGh} (hg : sxGd sxKw gh) : sxCtV sxKw gh ct1102 := sxMeB_ok (cts := [ct1101]) (cuts := cu1102) (sp := []) 81 (by decide +kernel) hg (by decide) (by decide) (List.forall_mem_cons.mpr ⟨cv1101 hg, (fun _ h => absurd h List.not_mem_nil)⟩)
/-- LotBeliefs.Subsets.greatest -/
def ct1103 : sxCt := (60, 1, (1, [], [], [(0, .inl 45)], [], [], [], []), [], [
  (2, [(1, .negSucc 0, .ofNat 4095)], [], [], [.inr (false, (1, .ofNat 0))], [], [], [])], [], 0, 0)
def cu1103 : List sxCu := [
  (6, (4, [(1, .negSucc 0, .ofNat 4095), (2, .negSucc 0, .ofNat 63), (3, .ofNat 0, .ofNat 4096)], [(1, 3, .negSucc 0)], [(0, .inl 45), (1, .inr (false, (1, .ofNat 0))), (2, .inr (false, (2, .ofNat 0))), (3, .inr (false, (3, .ofNat 0)))], [], [], [], []), ((0, 3, .ofNat 4096), (0, 0, .ofNat 0), (0, 0, .ofNat 0)), 0, 0)]
set_option maxRecDepth 1000000 in
theorem cv1103 {gh : sxGh} (hg : sxGd sxKw gh) : sxCtV sxKw gh ct1103 := sxMeB_ok (cts := [ct460]) (cuts := cu1103) (sp := []) 113 (by decide +kernel) hg (by decide) (by decide) (List.forall_mem_cons.mpr ⟨cv460 hg, (fun _ h => absurd h List.not_mem_nil)⟩)
/-- LotBeliefs.Subsets.fitting -/
def ct1104 : sxCt := (59, 0, (1, [], [], [(0, .inl 45)], [], [], [], []), [], [
  (2, [(1, .ofNat 0, .ofNat 4096)], [], [], [.inr (false, (1, .ofNat 0))], [], [], [])], [], 0, 0)
def cu1104 : List sxCu := [
  (4, (3, [(1, .ofNat 0, .ofNat 4096), (2, .ofNat 0, .ofNat 4096)], [(1, 2, .ofNat 0)], [(0, .inl 45), (1, .inr (false, (1, .ofNat 0))), (2, .inr (false, (2, .ofNat 0)))], [], [], [], []), ((0, 2, .ofNat 4096), (0, 0, .ofNat 0), (0, 0, .ofNat 0)), 0, 0)]
set_option maxRecDepth 1000000 in
theorem cv1104 {gh : sxGh} (hg : sxGd sxKw gh) : sxCtV sxKw gh ct1104 := sxMeB_ok (cts := []) (cuts := cu1104) (sp := []) 87 (by decide +kernel) hg (by decide) (by decide) (fun _ h => absurd h List.not_mem_nil)
/-- LotBeliefs.Subsets.wholeAt -/
def ct1105 : sxCt := (64, 1, (2, [(1, .negSucc 2147483647, .ofNat 2147483647)], [], [(0, .inl 45), (1, .inr (false, (1, .ofNat 0)))], [], [], [], []), [], [
  (3, [(2, .negSucc 0, .ofNat 4095)], [], [], [.inr (false, (2, .ofNat 0))], [], [], [])], [], 0, 0)
def cu1105 : List sxCu := [
  (4, (4, [(1, .negSucc 2147483647, .ofNat 2147483647), (2, .ofNat 0, .ofNat 4096), (3, .ofNat 0, .ofNat 4096)], [(2, 3, .ofNat 0)], [(0, .inl 45), (1, .inr (false, (1, .ofNat 0))), (2, .inr (false, (2, .ofNat 0))), (3, .inr (false, (3, .ofNat 0)))], [], [], [], []), ((0, 3, .ofNat 4096), (0, 0, .ofNat 0), (0, 0, .ofNat 0)), 0, 0)]
set_option maxRecDepth 1000000 in
theorem cv1105 {gh : sxGh} (hg : sxGd sxKw gh) : sxCtV sxKw gh ct1105 := sxMeB_ok (cts := [ct1101]) (cuts := cu1105) (sp := []) 86 (by decide +kernel) hg (by decide) (by decide) (List.forall_mem_cons.mpr ⟨cv1101 hg, (fun _ h => absurd h List.not_mem_nil)⟩)
/-- LotBeliefsModel.whole -/
def ct1106 : sxCt := (301, 2, (3, [(1, .ofNat 0, .ofNat 51), (2, .negSucc 2147483647, .ofNat 2147483647)], [], [(0, .inl 78), (1, .inr (false, (1, .ofNat 0))), (2, .inr (false, (2, .ofNat 0)))], [], [], [], []), [(78, 1)], [
  (4, [(3, .negSucc 0, .ofNat 4095)], [], [], [.inr (false, (3, .ofNat 0))], [(78, (0, .ofNat 0), .inr (false, (0, .ofNat 0)))], [], [])], [], 0, 0)
def cu1106 : List sxCu := [
  (33, (5, [(1, .ofNat 0, .ofNat 51), (2, .negSucc 2147483647, .ofNat 2147483647), (3, .ofNat 0, .ofNat 4096), (4, .ofNat 0, .ofNat 4096)], [(3, 4, .ofNat 0)], [(0, .inl 78), (1, .inr (false, (1, .ofNat 0))), (2, .inr (false, (2, .ofNat 0))), (3, .inr (false, (3, .ofNat 0))), (4, .inr (false, (4, .ofNat 0)))], [], [(78, (0, .ofNat 0), .inr (false, (0, .ofNat 0)))], [], []), ((0, 4, .ofNat 4096), (0, 0, .ofNat 0), (0, 0, .ofNat 0)), 0, 0)]
set_option maxRecDepth 1000000 in
theorem cv1106 {gh : sxGh} (hg : sxGd sxKw gh) : sxCtV sxKw gh ct1106 := sxMeB_ok (cts := [ct1074]) (cuts := cu1106) (sp := []) 125 (by decide +kernel) hg (by decide) (by decide) (List.forall_mem_cons.mpr ⟨cv1074 hg, (fun _ h => absurd h List.not_mem_nil)⟩)
/-- LotBeliefs.Subsets.proving -/
def ct1107 : sxCt := (62, 1, (2, [(1, .negSucc 9223372036854775807, .ofNat 9223372036854775807)], [], [(0, .inl 45), (1, .inr (true, (1, .ofNat 0)))], [], [], [], []), [], [
  (3, [(2, .negSucc 0, .ofNat 4095)], [], [], [.inr (false, (2, .ofNat 0))], [], [], [])], [], 0, 0)
def cu1107 : List sxCu := [
  (9, (5, [(1, .negSucc 9223372036854775807, .ofNat 9223372036854775807), (2, .negSucc 0, .ofNat 4095), (3, .ofNat 0, .ofNat 63), (4, .ofNat 0, .ofNat 4096)], [(2, 4, .negSucc 0)], [(0, .inl 45), (1, .inr (true, (1, .ofNat 0))), (3, .inr (false, (2, .ofNat 0))), (4, .inr (false, (3, .ofNat 0))), (5, .inr (false, (4, .ofNat 0)))], [], [], [], []), ((0, 4, .ofNat 4096), (0, 0, .ofNat 0), (0, 0, .ofNat 0)), 0, 0)]
set_option maxRecDepth 1000000 in
theorem cv1107 {gh : sxGh} (hg : sxGd sxKw gh) : sxCtV sxKw gh ct1107 := sxMeB_ok (cts := [ct460]) (cuts := cu1107) (sp := []) 170 (by decide +kernel) hg (by decide) (by decide) (List.forall_mem_cons.mpr ⟨cv460 hg, (fun _ h => absurd h List.not_mem_nil)⟩)
/-- LotBeliefsModel.proof -/
def ct1108 : sxCt := (302, 2, (2, [(1, .ofNat 0, .ofNat 51)], [], [(0, .inl 78), (1, .inr (false, (1, .ofNat 0)))], [], [], [], []), [(78, 1)], [
  (3, [(2, .negSucc 0, .ofNat 4095)], [], [], [.inr (false, (2, .ofNat 0))], [(78, (0, .ofNat 0), .inr (false, (0, .ofNat 0)))], [], [])], [], 0, 0)
def cu1108 : List sxCu := [
  (32, (4, [(1, .ofNat 0, .ofNat 51), (2, .negSucc 0, .ofNat 4095), (3, .ofNat 0, .ofNat 4096)], [(2, 3, .negSucc 0)], [(0, .inl 78), (1, .inr (false, (1, .ofNat 0))), (2, .inr (false, (2, .ofNat 0))), (3, .inr (false, (3, .ofNat 0)))], [], [(78, (0, .ofNat 0), .inr (false, (0, .ofNat 0)))], [], []), ((0, 3, .ofNat 4096), (0, 0, .ofNat 0), (0, 0, .ofNat 0)), 0, 0)]
set_option maxRecDepth 1000000 in
theorem cv1108 {gh : sxGh} (hg : sxGd sxKw gh) : sxCtV sxKw gh ct1108 := sxMeB_ok (cts := [ct461, ct459]) (cuts := cu1108) (sp := []) 194 (by decide +kernel) hg (by decide) (by decide) (List.forall_mem_cons.mpr ⟨cv461 hg, (List.forall_mem_cons.mpr ⟨cv459 hg, (fun _ h => absurd h List.not_mem_nil)⟩)⟩)
/-- LotBeliefs.split -/
def ct1109 : sxCt := (141, 2, (3, [(1, .ofNat 0, .ofNat 51), (2, .ofNat 0, .ofNat 1)], [], [(0, .inl 0), (1, .inr (false, (1, .ofNat 0))), (2, .inr (false, (2, .ofNat 0)))], [], [], [], []), [], [
  (4, [(3, .ofNat 0, .ofNat 127)], [], [], [.inr (false, (3, .ofNat 0))], [], [], [])], [], 0, 0)
def cu1109 : List sxCu := [
  (27, (6, [(1, .ofNat 0, .ofNat 51), (2, .ofNat 0, .ofNat 1), (3, .ofNat 0, .ofNat 5), (4, .ofNat 0, .ofNat 127), (5, .ofNat 1, .ofNat 6)], [(3, 5, .negSucc 0)], [(0, .inl 0), (1, .inr (false, (1, .ofNat 0))), (2, .inr (false, (2, .ofNat 0))), (3, .inr (false, (3, .ofNat 0))), (4, .inr (false, (4, .ofNat 0))), (5, .inr (false, (5, .ofNat 0)))], [], [], [], []), ((0, 5, .ofNat 6), (0, 0, .ofNat 0), (0, 0, .ofNat 0)), 0, 0)]
set_option maxRecDepth 1000000 in
theorem cv1109 {gh : sxGh} (hg : sxGd sxKw gh) : sxCtV sxKw gh ct1109 := sxMeB_ok (cts := [ct95]) (cuts := cu1109) (sp := []) 681 (by decide +kernel) hg (by decide) (by decide) (List.forall_mem_cons.mpr ⟨cv95 hg, (fun _ h => absurd h List.not_mem_nil)⟩)
/-- LotBeliefsModel.atomOf -/
def ct1110 : sxCt := (215, 0, (2, [(1, .ofNat 0, .ofNat 6)], [], [(0, .inr (false, (0, .ofNat 0))), (1, .inr (false, (1, .ofNat 0)))], [], [], [], []), [], [
  (3, [(2, .negSucc 9223372036854775807, .ofNat 9223372036854775807)], [], [], [.inr (true, (2, .ofNat 0))], [], [], [])], [], 0, 0)
def cu1110 : List sxCu := []
set_option maxRecDepth 1000000 in
theorem cv1110 {gh : sxGh} (hg : sxGd sxKw gh) : sxCtV sxKw gh ct1110 := sxMeB_ok (cts := []) (cuts := cu1110) (sp := []) 1349 (by decide +kernel) hg (by decide) (by decide) (fun _ h => absurd h List.not_mem_nil)
/-- LotBeliefsModel.atomOf -/
def ct1115 : sxCt := (215, 0, (3, [(1, .ofNat 0, .ofNat 5), (2, .ofNat 0, .ofNat 6)], [], [(0, .inr (false, (1, .ofNat 0))), (1, .inr (false, (2, .ofNat 0)))], [], [], [], []), [], [
  (4, [(3, .negSucc 9223372036854775807, .ofNat 9223372036854775807)], [], [], [.inr (true, (3, .ofNat 0))], [], [], [])], [], 0, 0)
def cu1115 : List sxCu := []
set_option maxRecDepth 1000000 in
theorem cv1115 {gh : sxGh} (hg : sxGd sxKw gh) : sxCtV sxKw gh ct1115 := sxMeB_ok (cts := []) (cuts := cu1115) (sp := []) 1349 (by decide +kernel) hg (by decide) (by decide) (fun _ h => absurd h List.not_mem_nil)
/-- LotBeliefsModel.split -/
def ct1116 : sxCt := (303, 2, (3, [(1, .ofNat 0, .ofNat 51), (2, .ofNat 0, .ofNat 1)], [], [(0, .inl 78), (1, .inr (false, (1, .ofNat 0))), (2, .inr (false, (2, .ofNat 0)))], [], [], [], []), [(78, 1)], [
  (4, [(3, .negSucc 2147483647, .ofNat 2147483647)], [], [], [.inr (false, (3, .ofNat 0))], [(78, (0, .ofNat 0), .inr (false, (0, .ofNat 0)))], [], [])], [], 0, 0)
def cu1116 : List sxCu := [
  (45, (6, [(1, .ofNat 0, .ofNat 51), (2, .ofNat 0, .ofNat 1), (3, .negSucc 0, .ofNat 5), (4, .negSucc 2147483647, .ofNat 2147483647), (5, .ofNat 0, .ofNat 6)], [(3, 5, .negSucc 0)], [(0, .inl 78), (1, .inr (false, (1, .ofNat 0))), (2, .inr (false, (2, .ofNat 0))), (3, .inr (false, (3, .ofNat 0))), (4, .inr (false, (4, .ofNat 0))), (5, .inr (false, (5, .ofNat 0)))], [], [(78, (0, .ofNat 0), .inr (false, (0, .ofNat 0)))], [], []), ((0, 5, .ofNat 6), (0, 0, .ofNat 0), (0, 0, .ofNat 0)), 0, 0)]
set_option maxRecDepth 1000000 in
theorem cv1116 {gh : sxGh} (hg : sxGd sxKw gh) : sxCtV sxKw gh ct1116 := sxMeB_ok (cts := [ct1115, ct0]) (cuts := cu1116) (sp := []) 200 (by decide +kernel) hg (by decide) (by decide) (List.forall_mem_cons.mpr ⟨cv1115 hg, (List.forall_mem_cons.mpr ⟨cv0 hg, (fun _ h => absurd h List.not_mem_nil)⟩)⟩)
/-- LotBeliefs.Jar.slipsSoIn -/
def ct1153 : sxCt := (26, 1, (2, [(1, .ofNat 0, .ofNat 63)], [], [(0, .inl 11), (1, .inr (false, (1, .ofNat 0)))], [], [], [], []), [], [
  (3, [(2, .ofNat 0, .ofNat 4095)], [], [], [.inr (false, (2, .ofNat 0))], [], [], [])], [], 0, 0)
def cu1153 : List sxCu := [
  (4, (4, [(1, .ofNat 0, .ofNat 63), (2, .ofNat 0, .ofNat 4095), (3, .ofNat 0, .ofNat 12)], [], [(0, .inl 11), (1, .inr (false, (1, .ofNat 0))), (2, .inr (false, (2, .ofNat 0))), (3, .inr (false, (3, .ofNat 0)))], [], [], [], []), ((0, 3, .ofNat 12), (0, 0, .ofNat 0), (0, 0, .ofNat 0)), 0, 0)]
set_option maxRecDepth 1000000 in
theorem cv1153 {gh : sxGh} (hg : sxGd sxKw gh) : sxCtV sxKw gh ct1153 := sxMeB_ok (cts := []) (cuts := cu1153) (sp := []) 103 (by decide +kernel) hg (by decide) (by decide) (fun _ h => absurd h List.not_mem_nil)
/-- LotBeliefs.likely -/
def ct1154 : sxCt := (142, 2, (2, [(1, .ofNat 0, .ofNat 51)], [], [(0, .inl 0), (1, .inr (false, (1, .ofNat 0)))], [], [], [], []), [], [
  (3, [(2, .negSucc 0, .ofNat 63)], [], [], [.inr (false, (2, .ofNat 0))], [], [], [])], [], 0, 0)
def cu1154 : List sxCu := [
  (12, (5, [(1, .ofNat 0, .ofNat 51), (2, .negSucc 0, .ofNat 63), (3, .negSucc 0, .ofNat 63), (4, .ofNat 0, .ofNat 64)], [(2, 4, .negSucc 0), (3, 2, .ofNat 63), (3, 4, .ofNat 62)], [(0, .inl 0), (1, .inr (false, (1, .ofNat 0))), (2, .inr (false, (2, .ofNat 0))), (3, .inr (false, (3, .ofNat 0))), (4, .inr (false, (4, .ofNat 0)))], [], [], [], []), ((0, 4, .ofNat 64), (0, 0, .ofNat 0), (0, 0, .ofNat 0)), 0, 0)]
set_option maxRecDepth 1000000 in
theorem cv1154 {gh : sxGh} (hg : sxGd sxKw gh) : sxCtV sxKw gh ct1154 := sxMeB_ok (cts := [ct1153, ct322, ct460]) (cuts := cu1154) (sp := []) 162 (by decide +kernel) hg (by decide) (by decide) (List.forall_mem_cons.mpr ⟨cv1153 hg, (List.forall_mem_cons.mpr ⟨cv322 hg, (List.forall_mem_cons.mpr ⟨cv460 hg, (fun _ h => absurd h List.not_mem_nil)⟩)⟩)⟩)
/-- LotBeliefsModel.likely -/
def ct1155 : sxCt := (304, 2, (2, [(1, .ofNat 0, .ofNat 51)], [], [(0, .inl 78), (1, .inr (false, (1, .ofNat 0)))], [], [], [], []), [(78, 1)], [
  (3, [(2, .negSucc 0, .ofNat 63)], [], [], [.inr (false, (2, .ofNat 0))], [(78, (0, .ofNat 0), .inr (false, (0, .ofNat 0)))], [], [])], [], 0, 0)
def cu1155 : List sxCu := [
  (35, (5, [(1, .ofNat 0, .ofNat 51), (2, .negSucc 0, .ofNat 63), (3, .negSucc 0, .ofNat 2147483647), (4, .ofNat 0, .ofNat 64)], [(2, 4, .negSucc 0)], [(0, .inl 78), (1, .inr (false, (1, .ofNat 0))), (2, .inr (false, (2, .ofNat 0))), (3, .inr (false, (3, .ofNat 0))), (4, .inr (false, (4, .ofNat 0)))], [], [(78, (0, .ofNat 0), .inr (false, (0, .ofNat 0)))], [], []), ((0, 4, .ofNat 64), (0, 0, .ofNat 13), (0, 0, .ofNat 0)), 0, 0), 
  (73, (8, [(1, .ofNat 0, .ofNat 51), (2, .negSucc 0, .ofNat 62), (3, .negSucc 0, .ofNat 2147483647), (4, .ofNat 0, .ofNat 63), (5, .negSucc 2147483647, .ofNat 2147483647), (6, .ofNat 0, .ofNat 12), (7, .ofNat 0, .ofNat 6)], [(2, 4, .negSucc 0)], [(0, .inl 78), (1, .inr (false, (1, .ofNat 0))), (2, .inr (false, (2, .ofNat 0))), (3, .inr (false, (3, .ofNat 0))), (4, .inr (false, (4, .ofNat 0))), (5, .inr (false, (5, .ofNat 0))), (6, .inr (false, (6, .ofNat 0)))], [], [(78, (0, .ofNat 0), .inr (false, (0, .ofNat 0))), (78, (0, .ofNat 12), .inl 82), (78, (0, .ofNat 19), .inl 89), (82, (0, .ofNat 0), .inr (false, (7, .ofNat 0)))], [], []), ((0, 4, .ofNat 64), (0, 6, .ofNat 12), (0, 0, .ofNat 0)), 0, 0)]
set_option maxRecDepth 1000000 in
theorem cv1155 {gh : sxGh} (hg : sxGd sxKw gh) : sxCtV sxKw gh ct1155 := sxMeB_ok (cts := []) (cuts := cu1155) (sp := []) 160 (by decide +kernel) hg (by decide) (by decide) (fun _ h => absurd h List.not_mem_nil)
/-- LotBeliefs.copyOrder -/
def ct1159 : sxCt := (183, 0, (2, [(1, .ofNat 0, .ofNat 5)], [], [(0, .inl 0), (1, .inr (false, (1, .ofNat 0)))], [], [], [], []), [(31, 0)], [
  (2, [], [], [], [], [], [], [])], [], 0, 0)
def cu1159 : List sxCu := [
  (2, (3, [(1, .ofNat 0, .ofNat 5), (2, .ofNat 0, .ofNat 12)], [], [(0, .inl 0), (1, .inr (false, (1, .ofNat 0))), (2, .inr (false, (2, .ofNat 0)))], [], [], [], []), ((0, 2, .ofNat 12), (0, 0, .ofNat 0), (0, 0, .ofNat 0)), 0, 0)]
set_option maxRecDepth 1000000 in
theorem cv1159 {gh : sxGh} (hg : sxGd sxKw gh) : sxCtV sxKw gh ct1159 := sxMeB_ok (cts := []) (cuts := cu1159) (sp := []) 111 (by decide +kernel) hg (by decide) (by decide) (fun _ h => absurd h List.not_mem_nil)
/-- LotBeliefs.laySalts -/
def ct1160 : sxCt := (188, 1, (2, [(1, .ofNat 0, .ofNat 1)], [], [(0, .inl 0), (1, .inr (false, (1, .ofNat 0)))], [], [], [], []), [(31, 0)], [
  (3, [(2, .ofNat 0, .ofNat 17)], [], [], [.inr (false, (2, .ofNat 0))], [], [], [])], [], 0, 0)
def cu1160 : List sxCu := [
  (4, (4, [(1, .ofNat 0, .ofNat 1), (2, .ofNat 0, .ofNat 5), (3, .ofNat 0, .ofNat 5)], [(2, 3, .ofNat 0)], [(0, .inl 0), (1, .inr (false, (1, .ofNat 0))), (2, .inr (false, (2, .ofNat 0))), (3, .inr (false, (3, .ofNat 0)))], [], [], [], []), ((0, 3, .ofNat 5), (0, 0, .ofNat 0), (0, 0, .ofNat 0)), 0, 0)]
set_option maxRecDepth 1000000 in
theorem cv1160 {gh : sxGh} (hg : sxGd sxKw gh) : sxCtV sxKw gh ct1160 := sxMeB_ok (cts := [ct1159]) (cuts := cu1160) (sp := []) 127 (by decide +kernel) hg (by decide) (by decide) (List.forall_mem_cons.mpr ⟨cv1159 hg, (fun _ h => absurd h List.not_mem_nil)⟩)
/-- LotBeliefs.Course.bury -/
def ct1165 : sxCt := (5, 1, (2, [(1, .ofNat 0, .ofNat 16)], [], [(0, .inl 32), (1, .inr (false, (1, .ofNat 0)))], [], [], [], []), [(32, 11), (32, 12), (34, 0), (36, 0), (37, 0)], [
  (3, [(2, .negSucc 2147483647, .ofNat 2147483647)], [], [], [], [(32, (0, .ofNat 11), .inr (false, (2, .ofNat 0)))], [], [])], [], 0, 0)
def cu1165 : List sxCu := [
  (22, (5, [(1, .ofNat 0, .ofNat 16), (2, .ofNat 0, .ofNat 17), (3, .ofNat 0, .ofNat 17), (4, .negSucc 2147483647, .ofNat 2147483647)], [(2, 3, .ofNat 0)], [(0, .inl 32), (1, .inr (false, (1, .ofNat 0))), (2, .inr (false, (2, .ofNat 0))), (3, .inr (false, (3, .ofNat 0)))], [], [(32, (0, .ofNat 11), .inr (false, (4, .ofNat 0)))], [], []), ((0, 3, .ofNat 17), (0, 0, .ofNat 0), (0, 0, .ofNat 0)), 0, 0)]
set_option maxRecDepth 1000000 in
theorem cv1165 {gh : sxGh} (hg : sxGd sxKw gh) : sxCtV sxKw gh ct1165 := sxMeB_ok (cts := [ct331, ct332]) (cuts := cu1165) (sp := []) 185 (by decide +kernel) hg (by decide) (by decide) (List.forall_mem_cons.mpr ⟨cv331 hg, (List.forall_mem_cons.mpr ⟨cv332 hg, (fun _ h => absurd h List.not_mem_nil)⟩)⟩)
/-- LotBeliefs.Course.lives -/
def ct1166 : sxCt := (6, 0, (3, [(1, .ofNat 0, .ofNat 16), (2, .ofNat 0, .ofNat 16)], [], [(0, .inl 32), (1, .inr (false, (1, .ofNat 0))), (2, .inr (false, (2, .ofNat 0)))], [], [], [], []), [(33000036, 0)], [
  (3, [], [], [], [.inr (false, (0, .ofNat 0))], [], [], []), 
  (3, [], [], [], [.inr (false, (0, .ofNat 1))], [], [], [])], [], 0, 0)
def cu1166 : List sxCu := []
set_option maxRecDepth 1000000 in
theorem cv1166 {gh : sxGh} (hg : sxGd sxKw gh) : sxCtV sxKw gh ct1166 := sxMeB_ok (cts := []) (cuts := cu1166) (sp := []) 196 (by decide +kernel) hg (by decide) (by decide) (fun _ h => absurd h List.not_mem_nil)
/-- LotBeliefs.Course.play -/
def ct1167 : sxCt := (2, 4, (3, [(1, .ofNat 0, .ofNat 17), (2, .ofNat 0, .ofNat 1)], [], [(0, .inl 32), (1, .inl 31), (2, .inr (false, (1, .ofNat 0))), (3, .inr (false, (2, .ofNat 0)))], [], [], [], []), [(21, 0), (22, 0), (25, 0), (26, 0), (32, 9), (32, 11), (32, 12), (33000037, 0)], [
  (5, [(3, .ofNat 0, .ofNat 4095), (4, .negSucc 2147483647, .ofNat 2147483647)], [], [], [], [(32, (0, .ofNat 8), .inr (false, (3, .ofNat 0))), (32, (0, .ofNat 11), .inr (false, (4, .ofNat 0)))], [], [])], [], 0, 0)
def cu1167 : List sxCu := [
  (9, (4, [(1, .ofNat 0, .ofNat 17), (2, .ofNat 0, .ofNat 1), (3, .ofNat 0, .ofNat 17)], [(2, 3, .ofNat 0), (3, 1, .ofNat 1)], [(0, .inl 32), (1, .inl 31), (2, .inr (false, (1, .ofNat 0))), (3, .inr (false, (2, .ofNat 0))), (4, .inr (false, (3, .ofNat 0)))], [], [], [], []), ((0, 3, .ofNat 17), (0, 0, .ofNat 0), (0, 0, .ofNat 0)), 0, 0)]
set_option maxRecDepth 1000000 in
theorem cv1167 {gh : sxGh} (hg : sxGd sxKw gh) : sxCtV sxKw gh ct1167 := sxMeB_ok (cts := [ct465, ct329, ct1165, ct349, ct1166, ct348]) (cuts := cu1167) (sp := []) 134 (by decide +kernel) hg (by decide) (by decide) (List.forall_mem_cons.mpr ⟨cv465 hg, (List.forall_mem_cons.mpr ⟨cv329 hg, (List.forall_mem_cons.mpr ⟨cv1165 hg, (List.forall_mem_cons.mpr ⟨cv349 hg, (List.forall_mem_cons.mpr ⟨cv1166 hg, (List.forall_mem_cons.mpr ⟨cv348 hg, (fun _ h => absurd h List.not_mem_nil)⟩)⟩)⟩)⟩)⟩)⟩)
/-- LotBeliefs.laySalts -/
def ct1169 : sxCt := (188, 1, (2, [(1, .ofNat 0, .ofNat 3)], [], [(0, .inl 0), (1, .inr (false, (1, .ofNat 0)))], [], [], [], []), [(31, 0)], [
  (3, [(2, .ofNat 0, .ofNat 17)], [], [], [.inr (false, (2, .ofNat 0))], [], [], [])], [], 0, 0)
def cu1169 : List sxCu := [
  (4, (4, [(1, .ofNat 0, .ofNat 3), (2, .ofNat 0, .ofNat 5), (3, .ofNat 0, .ofNat 5)], [(2, 3, .ofNat 0)], [(0, .inl 0), (1, .inr (false, (1, .ofNat 0))), (2, .inr (false, (2, .ofNat 0))), (3, .inr (false, (3, .ofNat 0)))], [], [], [], []), ((0, 3, .ofNat 5), (0, 0, .ofNat 0), (0, 0, .ofNat 0)), 0, 0)]
set_option maxRecDepth 1000000 in
theorem cv1169 {gh : sxGh} (hg : sxGd sxKw gh) : sxCtV sxKw gh ct1169 := sxMeB_ok (cts := [ct1159]) (cuts := cu1169) (sp := []) 127 (by decide +kernel) hg (by decide) (by decide) (List.forall_mem_cons.mpr ⟨cv1159 hg, (fun _ h => absurd h List.not_mem_nil)⟩)
/-- LotBeliefs.laySalts -/
def ct1173 : sxCt := (188, 1, (2, [(1, .ofNat 0, .ofNat 7)], [], [(0, .inl 0), (1, .inr (false, (1, .ofNat 0)))], [], [], [], []), [(31, 0)], [
  (3, [(2, .ofNat 0, .ofNat 17)], [], [], [.inr (false, (2, .ofNat 0))], [], [], [])], [], 0, 0)
def cu1173 : List sxCu := [
  (4, (4, [(1, .ofNat 0, .ofNat 7), (2, .ofNat 0, .ofNat 5), (3, .ofNat 0, .ofNat 5)], [(2, 3, .ofNat 0)], [(0, .inl 0), (1, .inr (false, (1, .ofNat 0))), (2, .inr (false, (2, .ofNat 0))), (3, .inr (false, (3, .ofNat 0)))], [], [], [], []), ((0, 3, .ofNat 5), (0, 0, .ofNat 0), (0, 0, .ofNat 0)), 0, 0)]
set_option maxRecDepth 1000000 in
theorem cv1173 {gh : sxGh} (hg : sxGd sxKw gh) : sxCtV sxKw gh ct1173 := sxMeB_ok (cts := [ct1159]) (cuts := cu1173) (sp := []) 127 (by decide +kernel) hg (by decide) (by decide) (List.forall_mem_cons.mpr ⟨cv1159 hg, (fun _ h => absurd h List.not_mem_nil)⟩)
/-- LotBeliefs.laySalts -/
def ct1178 : sxCt := (188, 1, (2, [(1, .ofNat 0, .ofNat 15)], [], [(0, .inl 0), (1, .inr (false, (1, .ofNat 0)))], [], [], [], []), [(31, 0)], [
  (3, [(2, .ofNat 0, .ofNat 17)], [], [], [.inr (false, (2, .ofNat 0))], [], [], [])], [], 0, 0)
def cu1178 : List sxCu := [
  (4, (4, [(1, .ofNat 0, .ofNat 15), (2, .ofNat 0, .ofNat 5), (3, .ofNat 0, .ofNat 5)], [(2, 3, .ofNat 0)], [(0, .inl 0), (1, .inr (false, (1, .ofNat 0))), (2, .inr (false, (2, .ofNat 0))), (3, .inr (false, (3, .ofNat 0)))], [], [], [], []), ((0, 3, .ofNat 5), (0, 0, .ofNat 0), (0, 0, .ofNat 0)), 0, 0)]
set_option maxRecDepth 1000000 in
theorem cv1178 {gh : sxGh} (hg : sxGd sxKw gh) : sxCtV sxKw gh ct1178 := sxMeB_ok (cts := [ct1159]) (cuts := cu1178) (sp := []) 127 (by decide +kernel) hg (by decide) (by decide) (List.forall_mem_cons.mpr ⟨cv1159 hg, (fun _ h => absurd h List.not_mem_nil)⟩)
/-- LotBeliefs.laySalts -/
def ct1181 : sxCt := (188, 1, (2, [(1, .ofNat 0, .ofNat 39)], [], [(0, .inl 0), (1, .inr (false, (1, .ofNat 0)))], [], [], [], []), [(31, 0)], [
  (3, [(2, .ofNat 0, .ofNat 17)], [], [], [.inr (false, (2, .ofNat 0))], [], [], [])], [], 0, 0)
def cu1181 : List sxCu := [
  (4, (4, [(1, .ofNat 0, .ofNat 39), (2, .ofNat 0, .ofNat 5), (3, .ofNat 0, .ofNat 5)], [(2, 3, .ofNat 0)], [(0, .inl 0), (1, .inr (false, (1, .ofNat 0))), (2, .inr (false, (2, .ofNat 0))), (3, .inr (false, (3, .ofNat 0)))], [], [], [], []), ((0, 3, .ofNat 5), (0, 0, .ofNat 0), (0, 0, .ofNat 0)), 0, 0)]
set_option maxRecDepth 1000000 in
theorem cv1181 {gh : sxGh} (hg : sxGd sxKw gh) : sxCtV sxKw gh ct1181 := sxMeB_ok (cts := [ct1159]) (cuts := cu1181) (sp := []) 127 (by decide +kernel) hg (by decide) (by decide) (List.forall_mem_cons.mpr ⟨cv1159 hg, (fun _ h => absurd h List.not_mem_nil)⟩)
/-- LotBeliefs.salted -/
def ct1182 : sxCt := (143, 6, (2, [(1, .ofNat 0, .ofNat 4095)], [], [(0, .inl 0), (1, .inr (false, (1, .ofNat 0)))], [], [(0, (0, .ofNat 2), .inl 3), (3, (0, .ofNat 2), .inr (false, (0, .ofNat 12)))], [], []), [(21, 0), (22, 0), (25, 0), (26, 0), (31, 0), (32, 1), (32, 2), (32, 3), (32, 4), (32, 9), (32, 11), (32, 12), (33000037, 0)], [
  (3, [(2, .negSucc 0, .ofNat 37)], [], [], [.inr (false, (2, .ofNat 0))], [(0, (0, .ofNat 2), .inl 3), (3, (0, .ofNat 2), .inr (false, (0, .ofNat 12)))], [], [])], [], 0, 0)
def cu1182 : List sxCu := [
  (20, (5, [(1, .ofNat 0, .ofNat 4095), (2, .negSucc 0, .ofNat 37), (3, .ofNat 0, .ofNat 6), (4, .ofNat 0, .ofNat 38)], [(2, 4, .negSucc 0)], [(0, .inl 0), (1, .inr (false, (1, .ofNat 0))), (2, .inr (false, (2, .ofNat 0))), (3, .inr (false, (3, .ofNat 0))), (4, .inr (false, (4, .ofNat 0)))], [], [(0, (0, .ofNat 2), .inl 3), (3, (0, .ofNat 2), .inr (false, (0, .ofNat 12)))], [], []), ((0, 4, .ofNat 38), (0, 0, .ofNat 0), (0, 0, .ofNat 0)), 0, 0)]
set_option maxRecDepth 1000000 in
theorem cv1182 {gh : sxGh} (hg : sxGd sxKw gh) : sxCtV sxKw gh ct1182 := sxMeB_ok (cts := [ct1167, ct1181, ct964]) (cuts := cu1182) (sp := []) 202 (by decide +kernel) hg (by decide) (by decide) (List.forall_mem_cons.mpr ⟨cv1167 hg, (List.forall_mem_cons.mpr ⟨cv1181 hg, (List.forall_mem_cons.mpr ⟨cv964 hg, (fun _ h => absurd h List.not_mem_nil)⟩)⟩)⟩)
/-- LotBeliefs.salted -/
def ct1199 : sxCt := (143, 6, (2, [(1, .ofNat 0, .ofNat 2047)], [], [(0, .inl 0), (1, .inr (false, (1, .ofNat 0)))], [], [(0, (0, .ofNat 2), .inl 3), (3, (0, .ofNat 2), .inr (false, (0, .ofNat 11)))], [], []), [(21, 0), (22, 0), (25, 0), (26, 0), (31, 0), (32, 1), (32, 2), (32, 3), (32, 4), (32, 9), (32, 11), (32, 12), (33000037, 0)], [
  (3, [(2, .negSucc 0, .ofNat 37)], [], [], [.inr (false, (2, .ofNat 0))], [(0, (0, .ofNat 2), .inl 3), (3, (0, .ofNat 2), .inr (false, (0, .ofNat 11)))], [], [])], [], 0, 0)
def cu1199 : List sxCu := [
  (20, (5, [(1, .ofNat 0, .ofNat 2047), (2, .negSucc 0, .ofNat 37), (3, .ofNat 0, .ofNat 6), (4, .ofNat 0, .ofNat 38)], [(2, 4, .negSucc 0)], [(0, .inl 0), (1, .inr (false, (1, .ofNat 0))), (2, .inr (false, (2, .ofNat 0))), (3, .inr (false, (3, .ofNat 0))), (4, .inr (false, (4, .ofNat 0)))], [], [(0, (0, .ofNat 2), .inl 3), (3, (0, .ofNat 2), .inr (false, (0, .ofNat 11)))], [], []), ((0, 4, .ofNat 38), (0, 0, .ofNat 0), (0, 0, .ofNat 0)), 0, 0)]
set_option maxRecDepth 1000000 in
theorem cv1199 {gh : sxGh} (hg : sxGd sxKw gh) : sxCtV sxKw gh ct1199 := sxMeB_ok (cts := [ct1167, ct1181, ct964]) (cuts := cu1199) (sp := []) 202 (by decide +kernel) hg (by decide) (by decide) (List.forall_mem_cons.mpr ⟨cv1167 hg, (List.forall_mem_cons.mpr ⟨cv1181 hg, (List.forall_mem_cons.mpr ⟨cv964 hg, (fun _ h => absurd h List.not_mem_nil)⟩)⟩)⟩)
/-- LotBeliefs.salted -/
def ct1201 : sxCt := (143, 6, (2, [(1, .ofNat 0, .ofNat 1023)], [], [(0, .inl 0), (1, .inr (false, (1, .ofNat 0)))], [], [(0, (0, .ofNat 2), .inl 3), (3, (0, .ofNat 2), .inr (false, (0, .ofNat 10)))], [], []), [(21, 0), (22, 0), (25, 0), (26, 0), (31, 0), (32, 1), (32, 2), (32, 3), (32, 4), (32, 9), (32, 11), (32, 12), (33000037, 0)], [
  (3, [(2, .negSucc 0, .ofNat 37)], [], [], [.inr (false, (2, .ofNat 0))], [(0, (0, .ofNat 2), .inl 3), (3, (0, .ofNat 2), .inr (false, (0, .ofNat 10)))], [], [])], [], 0, 0)
def cu1201 : List sxCu := [
  (20, (5, [(1, .ofNat 0, .ofNat 1023), (2, .negSucc 0, .ofNat 37), (3, .ofNat 0, .ofNat 6), (4, .ofNat 0, .ofNat 38)], [(2, 4, .negSucc 0)], [(0, .inl 0), (1, .inr (false, (1, .ofNat 0))), (2, .inr (false, (2, .ofNat 0))), (3, .inr (false, (3, .ofNat 0))), (4, .inr (false, (4, .ofNat 0)))], [], [(0, (0, .ofNat 2), .inl 3), (3, (0, .ofNat 2), .inr (false, (0, .ofNat 10)))], [], []), ((0, 4, .ofNat 38), (0, 0, .ofNat 0), (0, 0, .ofNat 0)), 0, 0)]
set_option maxRecDepth 1000000 in
theorem cv1201 {gh : sxGh} (hg : sxGd sxKw gh) : sxCtV sxKw gh ct1201 := sxMeB_ok (cts := [ct1167, ct1181, ct964]) (cuts := cu1201) (sp := []) 202 (by decide +kernel) hg (by decide) (by decide) (List.forall_mem_cons.mpr ⟨cv1167 hg, (List.forall_mem_cons.mpr ⟨cv1181 hg, (List.forall_mem_cons.mpr ⟨cv964 hg, (fun _ h => absurd h List.not_mem_nil)⟩)⟩)⟩)
/-- LotBeliefs.salted -/
def ct1203 : sxCt := (143, 6, (2, [(1, .ofNat 0, .ofNat 511)], [], [(0, .inl 0), (1, .inr (false, (1, .ofNat 0)))], [], [(0, (0, .ofNat 2), .inl 3), (3, (0, .ofNat 2), .inr (false, (0, .ofNat 9)))], [], []), [(21, 0), (22, 0), (25, 0), (26, 0), (31, 0), (32, 1), (32, 2), (32, 3), (32, 4), (32, 9), (32, 11), (32, 12), (33000037, 0)], [
  (3, [(2, .negSucc 0, .ofNat 37)], [], [], [.inr (false, (2, .ofNat 0))], [(0, (0, .ofNat 2), .inl 3), (3, (0, .ofNat 2), .inr (false, (0, .ofNat 9)))], [], [])], [], 0, 0)
def cu1203 : List sxCu := [
  (20, (5, [(1, .ofNat 0, .ofNat 511), (2, .negSucc 0, .ofNat 37), (3, .ofNat 0, .ofNat 6), (4, .ofNat 0, .ofNat 38)], [(2, 4, .negSucc 0)], [(0, .inl 0), (1, .inr (false, (1, .ofNat 0))), (2, .inr (false, (2, .ofNat 0))), (3, .inr (false, (3, .ofNat 0))), (4, .inr (false, (4, .ofNat 0)))], [], [(0, (0, .ofNat 2), .inl 3), (3, (0, .ofNat 2), .inr (false, (0, .ofNat 9)))], [], []), ((0, 4, .ofNat 38), (0, 0, .ofNat 0), (0, 0, .ofNat 0)), 0, 0)]
set_option maxRecDepth 1000000 in
theorem cv1203 {gh : sxGh} (hg : sxGd sxKw gh) : sxCtV sxKw gh ct1203 := sxMeB_ok (cts := [ct1167, ct1181, ct964]) (cuts := cu1203) (sp := []) 202 (by decide +kernel) hg (by decide) (by decide) (List.forall_mem_cons.mpr ⟨cv1167 hg, (List.forall_mem_cons.mpr ⟨cv1181 hg, (List.forall_mem_cons.mpr ⟨cv964 hg, (fun _ h => absurd h List.not_mem_nil)⟩)⟩)⟩)
/-- LotBeliefs.salted -/
def ct1205 : sxCt := (143, 6, (2, [(1, .ofNat 0, .ofNat 255)], [], [(0, .inl 0), (1, .inr (false, (1, .ofNat 0)))], [], [(0, (0, .ofNat 2), .inl 3), (3, (0, .ofNat 2), .inr (false, (0, .ofNat 8)))], [], []), [(21, 0), (22, 0), (25, 0), (26, 0), (31, 0), (32, 1), (32, 2), (32, 3), (32, 4), (32, 9), (32, 11), (32, 12), (33000037, 0)], [
  (3, [(2, .negSucc 0, .ofNat 37)], [], [], [.inr (false, (2, .ofNat 0))], [(0, (0, .ofNat 2), .inl 3), (3, (0, .ofNat 2), .inr (false, (0, .ofNat 8)))], [], [])], [], 0, 0)
def cu1205 : List sxCu := [
  (20, (5, [(1, .ofNat 0, .ofNat 255), (2, .negSucc 0, .ofNat 37), (3, .ofNat 0, .ofNat 6), (4, .ofNat 0, .ofNat 38)], [(2, 4, .negSucc 0)], [(0, .inl 0), (1, .inr (false, (1, .ofNat 0))), (2, .inr (false, (2, .ofNat 0))), (3, .inr (false, (3, .ofNat 0))), (4, .inr (false, (4, .ofNat 0)))], [], [(0, (0, .ofNat 2), .inl 3), (3, (0, .ofNat 2), .inr (false, (0, .ofNat 8)))], [], []), ((0, 4, .ofNat 38), (0, 0, .ofNat 0), (0, 0, .ofNat 0)), 0, 0)]
set_option maxRecDepth 1000000 in
theorem cv1205 {gh : sxGh} (hg : sxGd sxKw gh) : sxCtV sxKw gh ct1205 := sxMeB_ok (cts := [ct1167, ct1181, ct964]) (cuts := cu1205) (sp := []) 202 (by decide +kernel) hg (by decide) (by decide) (List.forall_mem_cons.mpr ⟨cv1167 hg, (List.forall_mem_cons.mpr ⟨cv1181 hg, (List.forall_mem_cons.mpr ⟨cv964 hg, (fun _ h => absurd h List.not_mem_nil)⟩)⟩)⟩)
/-- LotBeliefs.salted -/
def ct1207 : sxCt := (143, 6, (2, [(1, .ofNat 0, .ofNat 127)], [], [(0, .inl 0), (1, .inr (false, (1, .ofNat 0)))], [], [(0, (0, .ofNat 2), .inl 3), (3, (0, .ofNat 2), .inr (false, (0, .ofNat 7)))], [], []), [(21, 0), (22, 0), (25, 0), (26, 0), (31, 0), (32, 1), (32, 2), (32, 3), (32, 4), (32, 9), (32, 11), (32, 12), (33000037, 0)], [
  (3, [(2, .negSucc 0, .ofNat 37)], [], [], [.inr (false, (2, .ofNat 0))], [(0, (0, .ofNat 2), .inl 3), (3, (0, .ofNat 2), .inr (false, (0, .ofNat 7)))], [], [])], [], 0, 0)
def cu1207 : List sxCu := [
  (20, (5, [(1, .ofNat 0, .ofNat 127), (2, .negSucc 0, .ofNat 37), (3, .ofNat 0, .ofNat 6), (4, .ofNat 0, .ofNat 38)], [(2, 4, .negSucc 0)], [(0, .inl 0), (1, .inr (false, (1, .ofNat 0))), (2, .inr (false, (2, .ofNat 0))), (3, .inr (false, (3, .ofNat 0))), (4, .inr (false, (4, .ofNat 0)))], [], [(0, (0, .ofNat 2), .inl 3), (3, (0, .ofNat 2), .inr (false, (0, .ofNat 7)))], [], []), ((0, 4, .ofNat 38), (0, 0, .ofNat 0), (0, 0, .ofNat 0)), 0, 0)]
set_option maxRecDepth 1000000 in
theorem cv1207 {gh : sxGh} (hg : sxGd sxKw gh) : sxCtV sxKw gh ct1207 := sxMeB_ok (cts := [ct1167, ct1181, ct964]) (cuts := cu1207) (sp := []) 202 (by decide +kernel) hg (by decide) (by decide) (List.forall_mem_cons.mpr ⟨cv1167 hg, (List.forall_mem_cons.mpr ⟨cv1181 hg, (List.forall_mem_cons.mpr ⟨cv964 hg, (fun _ h => absurd h List.not_mem_nil)⟩)⟩)⟩)
/-- LotBeliefs.salted -/
def ct1209 : sxCt := (143, 6, (2, [(1, .ofNat 0, .ofNat 63)], [], [(0, .inl 0), (1, .inr (false, (1, .ofNat 0)))], [], [(0, (0, .ofNat 2), .inl 3), (3, (0, .ofNat 2), .inr (false, (0, .ofNat 6)))], [], []), [(21, 0), (22, 0), (25, 0), (26, 0), (31, 0), (32, 1), (32, 2), (32, 3), (32, 4), (32, 9), (32, 11), (32, 12), (33000037, 0)], [
  (3, [(2, .negSucc 0, .ofNat 37)], [], [], [.inr (false, (2, .ofNat 0))], [(0, (0, .ofNat 2), .inl 3), (3, (0, .ofNat 2), .inr (false, (0, .ofNat 6)))], [], [])], [], 0, 0)
def cu1209 : List sxCu := [
  (20, (5, [(1, .ofNat 0, .ofNat 63), (2, .negSucc 0, .ofNat 37), (3, .ofNat 0, .ofNat 6), (4, .ofNat 0, .ofNat 38)], [(2, 4, .negSucc 0)], [(0, .inl 0), (1, .inr (false, (1, .ofNat 0))), (2, .inr (false, (2, .ofNat 0))), (3, .inr (false, (3, .ofNat 0))), (4, .inr (false, (4, .ofNat 0)))], [], [(0, (0, .ofNat 2), .inl 3), (3, (0, .ofNat 2), .inr (false, (0, .ofNat 6)))], [], []), ((0, 4, .ofNat 38), (0, 0, .ofNat 0), (0, 0, .ofNat 0)), 0, 0)]
set_option maxRecDepth 1000000 in
theorem cv1209 {gh : sxGh} (hg : sxGd sxKw gh) : sxCtV sxKw gh ct1209 := sxMeB_ok (cts := [ct1167, ct1181, ct964]) (cuts := cu1209) (sp := []) 202 (by decide +kernel) hg (by decide) (by decide) (List.forall_mem_cons.mpr ⟨cv1167 hg, (List.forall_mem_cons.mpr ⟨cv1181 hg, (List.forall_mem_cons.mpr ⟨cv964 hg, (fun _ h => absurd h List.not_mem_nil)⟩)⟩)⟩)
/-- LotBeliefs.salted -/
def ct1211 : sxCt := (143, 6, (2, [(1, .ofNat 0, .ofNat 31)], [], [(0, .inl 0), (1, .inr (false, (1, .ofNat 0)))], [], [(0, (0, .ofNat 2), .inl 3), (3, (0, .ofNat 2), .inr (false, (0, .ofNat 5)))], [], []), [(21, 0), (22, 0), (25, 0), (26, 0), (31, 0), (32, 1), (32, 2), (32, 3), (32, 4), (32, 9), (32, 11), (32, 12), (33000037, 0)], [
  (3, [(2, .negSucc 0, .ofNat 37)], [], [], [.inr (false, (2, .ofNat 0))], [(0, (0, .ofNat 2), .inl 3), (3, (0, .ofNat 2), .inr (false, (0, .ofNat 5)))], [], [])], [], 0, 0)
def cu1211 : List sxCu := [
  (20, (5, [(1, .ofNat 0, .ofNat 31), (2, .negSucc 0, .ofNat 37), (3, .ofNat 0, .ofNat 6), (4, .ofNat 0, .ofNat 38)], [(2, 4, .negSucc 0)], [(0, .inl 0), (1, .inr (false, (1, .ofNat 0))), (2, .inr (false, (2, .ofNat 0))), (3, .inr (false, (3, .ofNat 0))), (4, .inr (false, (4, .ofNat 0)))], [], [(0, (0, .ofNat 2), .inl 3), (3, (0, .ofNat 2), .inr (false, (0, .ofNat 5)))], [], []), ((0, 4, .ofNat 38), (0, 0, .ofNat 0), (0, 0, .ofNat 0)), 0, 0)]
set_option maxRecDepth 1000000 in
theorem cv1211 {gh : sxGh} (hg : sxGd sxKw gh) : sxCtV sxKw gh ct1211 := sxMeB_ok (cts := [ct1167, ct1181, ct964]) (cuts := cu1211) (sp := []) 202 (by decide +kernel) hg (by decide) (by decide) (List.forall_mem_cons.mpr ⟨cv1167 hg, (List.forall_mem_cons.mpr ⟨cv1181 hg, (List.forall_mem_cons.mpr ⟨cv964 hg, (fun _ h => absurd h List.not_mem_nil)⟩)⟩)⟩)
/-- LotBeliefs.salted -/
def ct1213 : sxCt := (143, 6, (2, [(1, .ofNat 0, .ofNat 15)], [], [(0, .inl 0), (1, .inr (false, (1, .ofNat 0)))], [], [(0, (0, .ofNat 2), .inl 3), (3, (0, .ofNat 2), .inr (false, (0, .ofNat 4)))], [], []), [(21, 0), (22, 0), (25, 0), (26, 0), (31, 0), (32, 1), (32, 2), (32, 3), (32, 4), (32, 9), (32, 11), (32, 12), (33000037, 0)], [
  (3, [(2, .negSucc 0, .ofNat 37)], [], [], [.inr (false, (2, .ofNat 0))], [(0, (0, .ofNat 2), .inl 3), (3, (0, .ofNat 2), .inr (false, (0, .ofNat 4)))], [], [])], [], 0, 0)
def cu1213 : List sxCu := [
  (20, (5, [(1, .ofNat 0, .ofNat 15), (2, .negSucc 0, .ofNat 37), (3, .ofNat 0, .ofNat 6), (4, .ofNat 0, .ofNat 38)], [(2, 4, .negSucc 0)], [(0, .inl 0), (1, .inr (false, (1, .ofNat 0))), (2, .inr (false, (2, .ofNat 0))), (3, .inr (false, (3, .ofNat 0))), (4, .inr (false, (4, .ofNat 0)))], [], [(0, (0, .ofNat 2), .inl 3), (3, (0, .ofNat 2), .inr (false, (0, .ofNat 4)))], [], []), ((0, 4, .ofNat 38), (0, 0, .ofNat 0), (0, 0, .ofNat 0)), 0, 0)]
set_option maxRecDepth 1000000 in
theorem cv1213 {gh : sxGh} (hg : sxGd sxKw gh) : sxCtV sxKw gh ct1213 := sxMeB_ok (cts := [ct1167, ct1181, ct964]) (cuts := cu1213) (sp := []) 202 (by decide +kernel) hg (by decide) (by decide) (List.forall_mem_cons.mpr ⟨cv1167 hg, (List.forall_mem_cons.mpr ⟨cv1181 hg, (List.forall_mem_cons.mpr ⟨cv964 hg, (fun _ h => absurd h List.not_mem_nil)⟩)⟩)⟩)
/-- LotBeliefs.salted -/
def ct1215 : sxCt := (143, 6, (2, [(1, .ofNat 0, .ofNat 7)], [], [(0, .inl 0), (1, .inr (false, (1, .ofNat 0)))], [], [(0, (0, .ofNat 2), .inl 3), (3, (0, .ofNat 2), .inr (false, (0, .ofNat 3)))], [], []), [(21, 0), (22, 0), (25, 0), (26, 0), (31, 0), (32, 1), (32, 2), (32, 3), (32, 4), (32, 9), (32, 11), (32, 12), (33000037, 0)], [
  (3, [(2, .negSucc 0, .ofNat 37)], [], [], [.inr (false, (2, .ofNat 0))], [(0, (0, .ofNat 2), .inl 3), (3, (0, .ofNat 2), .inr (false, (0, .ofNat 3)))], [], [])], [], 0, 0)
def cu1215 : List sxCu := [
  (20, (5, [(1, .ofNat 0, .ofNat 7), (2, .negSucc 0, .ofNat 37), (3, .ofNat 0, .ofNat 6), (4, .ofNat 0, .ofNat 38)], [(2, 4, .negSucc 0)], [(0, .inl 0), (1, .inr (false, (1, .ofNat 0))), (2, .inr (false, (2, .ofNat 0))), (3, .inr (false, (3, .ofNat 0))), (4, .inr (false, (4, .ofNat 0)))], [], [(0, (0, .ofNat 2), .inl 3), (3, (0, .ofNat 2), .inr (false, (0, .ofNat 3)))], [], []), ((0, 4, .ofNat 38), (0, 0, .ofNat 0), (0, 0, .ofNat 0)), 0, 0)]
set_option maxRecDepth 1000000 in
theorem cv1215 {gh : sxGh} (hg : sxGd sxKw gh) : sxCtV sxKw gh ct1215 := sxMeB_ok (cts := [ct1167, ct1181, ct964]) (cuts := cu1215) (sp := []) 202 (by decide +kernel) hg (by decide) (by decide) (List.forall_mem_cons.mpr ⟨cv1167 hg, (List.forall_mem_cons.mpr ⟨cv1181 hg, (List.forall_mem_cons.mpr ⟨cv964 hg, (fun _ h => absurd h List.not_mem_nil)⟩)⟩)⟩)
/-- LotBeliefs.salted -/
def ct1217 : sxCt := (143, 6, (2, [(1, .ofNat 0, .ofNat 3)], [], [(0, .inl 0), (1, .inr (false, (1, .ofNat 0)))], [], [(0, (0, .ofNat 2), .inl 3), (3, (0, .ofNat 2), .inr (false, (0, .ofNat 2)))], [], []), [(21, 0), (22, 0), (25, 0), (26, 0), (31, 0), (32, 1), (32, 2), (32, 3), (32, 4), (32, 9), (32, 11), (32, 12), (33000037, 0)], [
  (3, [(2, .negSucc 0, .ofNat 37)], [], [], [.inr (false, (2, .ofNat 0))], [(0, (0, .ofNat 2), .inl 3), (3, (0, .ofNat 2), .inr (false, (0, .ofNat 2)))], [], [])], [], 0, 0)
def cu1217 : List sxCu := [
  (20, (5, [(1, .ofNat 0, .ofNat 3), (2, .negSucc 0, .ofNat 37), (3, .ofNat 0, .ofNat 6), (4, .ofNat 0, .ofNat 38)], [(2, 4, .negSucc 0)], [(0, .inl 0), (1, .inr (false, (1, .ofNat 0))), (2, .inr (false, (2, .ofNat 0))), (3, .inr (false, (3, .ofNat 0))), (4, .inr (false, (4, .ofNat 0)))], [], [(0, (0, .ofNat 2), .inl 3), (3, (0, .ofNat 2), .inr (false, (0, .ofNat 2)))], [], []), ((0, 4, .ofNat 38), (0, 0, .ofNat 0), (0, 0, .ofNat 0)), 0, 0)]
set_option maxRecDepth 1000000 in
theorem cv1217 {gh : sxGh} (hg : sxGd sxKw gh) : sxCtV sxKw gh ct1217 := sxMeB_ok (cts := [ct1167, ct1181, ct964]) (cuts := cu1217) (sp := []) 202 (by decide +kernel) hg (by decide) (by decide) (List.forall_mem_cons.mpr ⟨cv1167 hg, (List.forall_mem_cons.mpr ⟨cv1181 hg, (List.forall_mem_cons.mpr ⟨cv964 hg, (fun _ h => absurd h List.not_mem_nil)⟩)⟩)⟩)
/-- LotBeliefs.salted -/
def ct1219 : sxCt := (143, 6, (2, [(1, .ofNat 0, .ofNat 1)], [], [(0, .inl 0), (1, .inr (false, (1, .ofNat 0)))], [], [(0, (0, .ofNat 2), .inl 3), (3, (0, .ofNat 2), .inr (false, (0, .ofNat 1)))], [], []), [(21, 0), (22, 0), (25, 0), (26, 0), (31, 0), (32, 1), (32, 2), (32, 3), (32, 4), (32, 9), (32, 11), (32, 12), (33000037, 0)], [
  (3, [(2, .negSucc 0, .ofNat 37)], [], [], [.inr (false, (2, .ofNat 0))], [(0, (0, .ofNat 2), .inl 3), (3, (0, .ofNat 2), .inr (false, (0, .ofNat 1)))], [], [])], [], 0, 0)
def cu1219 : List sxCu := [
  (20, (5, [(1, .ofNat 0, .ofNat 1), (2, .negSucc 0, .ofNat 37), (3, .ofNat 0, .ofNat 6), (4, .ofNat 0, .ofNat 38)], [(2, 4, .negSucc 0)], [(0, .inl 0), (1, .inr (false, (1, .ofNat 0))), (2, .inr (false, (2, .ofNat 0))), (3, .inr (false, (3, .ofNat 0))), (4, .inr (false, (4, .ofNat 0)))], [], [(0, (0, .ofNat 2), .inl 3), (3, (0, .ofNat 2), .inr (false, (0, .ofNat 1)))], [], []), ((0, 4, .ofNat 38), (0, 0, .ofNat 0), (0, 0, .ofNat 0)), 0, 0)]
set_option maxRecDepth 1000000 in
theorem cv1219 {gh : sxGh} (hg : sxGd sxKw gh) : sxCtV sxKw gh ct1219 := sxMeB_ok (cts := [ct1167, ct1181, ct964]) (cuts := cu1219) (sp := []) 202 (by decide +kernel) hg (by decide) (by decide) (List.forall_mem_cons.mpr ⟨cv1167 hg, (List.forall_mem_cons.mpr ⟨cv1181 hg, (List.forall_mem_cons.mpr ⟨cv964 hg, (fun _ h => absurd h List.not_mem_nil)⟩)⟩)⟩)
/-- LotBeliefs.salted -/
def ct1221 : sxCt := (143, 6, (2, [(1, .ofNat 0, .ofNat 0)], [], [(0, .inl 0), (1, .inr (false, (1, .ofNat 0)))], [], [(0, (0, .ofNat 2), .inl 3), (3, (0, .ofNat 2), .inr (false, (0, .ofNat 0)))], [], []), [(21, 0), (22, 0), (25, 0), (26, 0), (31, 0), (32, 1), (32, 2), (32, 3), (32, 4), (32, 9), (32, 11), (32, 12), (33000037, 0)], [
  (3, [(2, .negSucc 0, .ofNat 37)], [], [], [.inr (false, (2, .ofNat 0))], [(0, (0, .ofNat 2), .inl 3), (3, (0, .ofNat 2), .inr (false, (0, .ofNat 0)))], [], [])], [], 0, 0)
def cu1221 : List sxCu := [
  (20, (5, [(1, .ofNat 0, .ofNat 0), (2, .negSucc 0, .ofNat 37), (3, .ofNat 0, .ofNat 6), (4, .ofNat 0, .ofNat 38)], [(2, 4, .negSucc 0)], [(0, .inl 0), (1, .inr (false, (1, .ofNat 0))), (2, .inr (false, (2, .ofNat 0))), (3, .inr (false, (3, .ofNat 0))), (4, .inr (false, (4, .ofNat 0)))], [], [(0, (0, .ofNat 2), .inl 3), (3, (0, .ofNat 2), .inr (false, (0, .ofNat 0)))], [], []), ((0, 4, .ofNat 38), (0, 0, .ofNat 0), (0, 0, .ofNat 0)), 0, 0)]
set_option maxRecDepth 1000000 in
theorem cv1221 {gh : sxGh} (hg : sxGd sxKw gh) : sxCtV sxKw gh ct1221 := sxMeB_ok (cts := [ct1167, ct1181, ct964]) (cuts := cu1221) (sp := []) 198 (by decide +kernel) hg (by decide) (by decide) (List.forall_mem_cons.mpr ⟨cv1167 hg, (List.forall_mem_cons.mpr ⟨cv1181 hg, (List.forall_mem_cons.mpr ⟨cv964 hg, (fun _ h => absurd h List.not_mem_nil)⟩)⟩)⟩)
/-- LotBeliefs.Survey.heldInAll -/
def ct1223 : sxCt := (77, 1, (2, [(1, .ofNat 0, .ofNat 4095)], [], [(0, .inl 74), (1, .inr (false, (1, .ofNat 0)))], [], [], [], []), [], [
  (3, [(2, .negSucc 2147483647, .ofNat 2147483647)], [], [], [.inr (false, (2, .ofNat 0))], [], [], [])], [], 0, 0)
def cu1223 : List sxCu := [
  (4, (4, [(1, .ofNat 0, .ofNat 4095), (2, .negSucc 2147483647, .ofNat 2147483647), (3, .ofNat 0, .ofNat 128)], [], [(0, .inl 74), (1, .inr (false, (1, .ofNat 0))), (2, .inr (false, (2, .ofNat 0))), (3, .inr (false, (3, .ofNat 0)))], [], [], [], []), ((0, 3, .ofNat 128), (0, 0, .ofNat 0), (0, 0, .ofNat 0)), 0, 0)]
set_option maxRecDepth 1000000 in
theorem cv1223 {gh : sxGh} (hg : sxGd sxKw gh) : sxCtV sxKw gh ct1223 := sxMeB_ok (cts := [ct975]) (cuts := cu1223) (sp := []) 86 (by decide +kernel) hg (by decide) (by decide) (List.forall_mem_cons.mpr ⟨cv975 hg, (fun _ h => absurd h List.not_mem_nil)⟩)
/-- LotBeliefs.Survey.heldInAll -/
def ct1224 : sxCt := (77, 1, (2, [(1, .ofNat 0, .ofNat 4095)], [], [(0, .inl 70), (1, .inr (false, (1, .ofNat 0)))], [], [], [], []), [], [
  (3, [(2, .negSucc 2147483647, .ofNat 2147483647)], [], [], [.inr (false, (2, .ofNat 0))], [], [], [])], [], 0, 0)
def cu1224 : List sxCu := [
  (4, (4, [(1, .ofNat 0, .ofNat 4095), (2, .negSucc 2147483647, .ofNat 2147483647), (3, .ofNat 0, .ofNat 128)], [], [(0, .inl 70), (1, .inr (false, (1, .ofNat 0))), (2, .inr (false, (2, .ofNat 0))), (3, .inr (false, (3, .ofNat 0)))], [], [], [], []), ((0, 3, .ofNat 128), (0, 0, .ofNat 0), (0, 0, .ofNat 0)), 0, 0)]
set_option maxRecDepth 1000000 in
theorem cv1224 {gh : sxGh} (hg : sxGd sxKw gh) : sxCtV sxKw gh ct1224 := sxMeB_ok (cts := [ct975]) (cuts := cu1224) (sp := []) 86 (by decide +kernel) hg (by decide) (by decide) (List.forall_mem_cons.mpr ⟨cv975 hg, (fun _ h => absurd h List.not_mem_nil)⟩)
/-- LotBeliefs.Survey.heldInAll -/
def ct1225 : sxCt := (77, 1, (2, [(1, .ofNat 0, .ofNat 4095)], [], [(0, .inl 66), (1, .inr (false, (1, .ofNat 0)))], [], [], [], []), [], [
  (3, [(2, .negSucc 2147483647, .ofNat 2147483647)], [], [], [.inr (false, (2, .ofNat 0))], [], [], [])], [], 0, 0)
def cu1225 : List sxCu := [
  (4, (4, [(1, .ofNat 0, .ofNat 4095), (2, .negSucc 2147483647, .ofNat 2147483647), (3, .ofNat 0, .ofNat 128)], [], [(0, .inl 66), (1, .inr (false, (1, .ofNat 0))), (2, .inr (false, (2, .ofNat 0))), (3, .inr (false, (3, .ofNat 0)))], [], [], [], []), ((0, 3, .ofNat 128), (0, 0, .ofNat 0), (0, 0, .ofNat 0)), 0, 0)]
set_option maxRecDepth 1000000 in
theorem cv1225 {gh : sxGh} (hg : sxGd sxKw gh) : sxCtV sxKw gh ct1225 := sxMeB_ok (cts := [ct975]) (cuts := cu1225) (sp := []) 86 (by decide +kernel) hg (by decide) (by decide) (List.forall_mem_cons.mpr ⟨cv975 hg, (fun _ h => absurd h List.not_mem_nil)⟩)
/-- LotBeliefs.Survey.heldInAll -/
def ct1226 : sxCt := (77, 1, (2, [(1, .ofNat 0, .ofNat 4095)], [], [(0, .inl 62), (1, .inr (false, (1, .ofNat 0)))], [], [], [], []), [], [
  (3, [(2, .negSucc 2147483647, .ofNat 2147483647)], [], [], [.inr (false, (2, .ofNat 0))], [], [], [])], [], 0, 0)
def cu1226 : List sxCu := [
  (4, (4, [(1, .ofNat 0, .ofNat 4095), (2, .negSucc 2147483647, .ofNat 2147483647), (3, .ofNat 0, .ofNat 128)], [], [(0, .inl 62), (1, .inr (false, (1, .ofNat 0))), (2, .inr (false, (2, .ofNat 0))), (3, .inr (false, (3, .ofNat 0)))], [], [], [], []), ((0, 3, .ofNat 128), (0, 0, .ofNat 0), (0, 0, .ofNat 0)), 0, 0)]
set_option maxRecDepth 1000000 in
theorem cv1226 {gh : sxGh} (hg : sxGd sxKw gh) : sxCtV sxKw gh ct1226 := sxMeB_ok (cts := [ct975]) (cuts := cu1226) (sp := []) 86 (by decide +kernel) hg (by decide) (by decide) (List.forall_mem_cons.mpr ⟨cv975 hg, (fun _ h => absurd h List.not_mem_nil)⟩)
/-- LotBeliefs.Survey.heldInAll -/
def ct1227 : sxCt := (77, 1, (2, [(1, .ofNat 0, .ofNat 4095)], [], [(0, .inl 58), (1, .inr (false, (1, .ofNat 0)))], [], [], [], []), [], [
  (3, [(2, .negSucc 2147483647, .ofNat 2147483647)], [], [], [.inr (false, (2, .ofNat 0))], [], [], [])], [], 0, 0)
def cu1227 : List sxCu := [
  (4, (4, [(1, .ofNat 0, .ofNat 4095), (2, .negSucc 2147483647, .ofNat 2147483647), (3, .ofNat 0, .ofNat 128)], [], [(0, .inl 58), (1, .inr (false, (1, .ofNat 0))), (2, .inr (false, (2, .ofNat 0))), (3, .inr (false, (3, .ofNat 0)))], [], [], [], []), ((0, 3, .ofNat 128), (0, 0, .ofNat 0), (0, 0, .ofNat 0)), 0, 0)]
set_option maxRecDepth 1000000 in
theorem cv1227 {gh : sxGh} (hg : sxGd sxKw gh) : sxCtV sxKw gh ct1227 := sxMeB_ok (cts := [ct975]) (cuts := cu1227) (sp := []) 86 (by decide +kernel) hg (by decide) (by decide) (List.forall_mem_cons.mpr ⟨cv975 hg, (fun _ h => absurd h List.not_mem_nil)⟩)
/-- LotBeliefs.drawRow -/
def ct1228 : sxCt := (185, 1, (2, [(1, .negSucc 2147483647, .ofNat 2147483647)], [], [(0, .inl 0), (1, .inr (false, (1, .ofNat 0)))], [], [], [], []), [(31, 0)], [
  (2, [], [], [], [], [], [], [])], [], 0, 0)
def cu1228 : List sxCu := [
  (2, (3, [(1, .negSucc 2147483647, .ofNat 2147483647), (2, .ofNat 0, .ofNat 12)], [], [(0, .inl 0), (1, .inr (false, (1, .ofNat 0))), (2, .inr (false, (2, .ofNat 0)))], [], [], [], []), ((0, 2, .ofNat 25), (0, 0, .ofNat 0), (0, 0, .ofNat 0)), 0, 0), 
  (38, (4, [(1, .negSucc 2147483647, .ofNat 2147483647), (2, .negSucc 2147483647, .ofNat 2147483647), (3, .negSucc 0, .ofNat 11)], [], [(0, .inl 0), (1, .inr (false, (1, .ofNat 0))), (2, .inr (false, (2, .ofNat 0))), (3, .inr (false, (3, .ofNat 0)))], [], [], [], []), ((3, 0, .ofNat 1), (0, 0, .ofNat 0), (0, 0, .ofNat 0)), 0, 0)]
set_option maxRecDepth 1000000 in
theorem cv1228 {gh : sxGh} (hg : sxGd sxKw gh) : sxCtV sxKw gh ct1228 := sxMeB_ok (cts := []) (cuts := cu1228) (sp := []) 142 (by decide +kernel) hg (by decide) (by decide) (fun _ h => absurd h List.not_mem_nil)
/-- LotBeliefsModel.rowBy -/
def ct1229 : sxCt := (290, 0, (2, [(1, .negSucc 2147483647, .ofNat 2147483647)], [], [(0, .inl 78), (1, .inr (false, (1, .ofNat 0)))], [], [], [], []), [(78, 44), (560, 0)], [
  (3, [(2, .ofNat 0, .ofNat 12)], [], [], [], [(78, (0, .ofNat 43), .inr (false, (2, .ofNat 0)))], [], [])], [], 0, 0)
def cu1229 : List sxCu := [
  (14, (4, [(1, .negSucc 2147483647, .ofNat 2147483647), (2, .ofNat 0, .ofNat 12), (3, .ofNat 0, .ofNat 12)], [], [(0, .inl 78), (1, .inr (false, (1, .ofNat 0))), (2, .inr (false, (1, .ofNat 0))), (3, .inr (false, (2, .ofNat 0)))], [], [(78, (0, .ofNat 12), .inl 82), (78, (0, .ofNat 43), .inr (false, (3, .ofNat 0))), (82, (0, .ofNat 1), .inr (false, (3, .ofNat 0)))], [], []), ((0, 2, .ofNat 25), (0, 0, .ofNat 0), (0, 0, .ofNat 0)), 0, 0), 
  (42, (5, [(1, .negSucc 2147483647, .ofNat 2147483647), (2, .negSucc 2147483647, .ofNat 2147483647), (3, .negSucc 0, .ofNat 11), (4, .ofNat 0, .ofNat 12)], [(3, 4, .negSucc 0)], [(0, .inl 78), (1, .inr (false, (1, .ofNat 0))), (2, .inr (false, (2, .ofNat 0))), (3, .inr (false, (3, .ofNat 0)))], [], [(78, (0, .ofNat 12), .inl 82), (78, (0, .ofNat 43), .inr (false, (4, .ofNat 0))), (82, (0, .ofNat 1), .inr (false, (4, .ofNat 0)))], [], []), ((3, 0, .ofNat 1), (0, 0, .ofNat 0), (0, 0, .ofNat 0)), 0, 0)]
set_option maxRecDepth 1000000 in
theorem cv1229 {gh : sxGh} (hg : sxGd sxKw gh) : sxCtV sxKw gh ct1229 := sxMeB_ok (cts := []) (cuts := cu1229) (sp := []) 125 (by decide +kernel) hg (by decide) (by decide) (fun _ h => absurd h List.not_mem_nil)
/-- LotBeliefs.runSchool -/
def ct1241 : sxCt := (189, 5, (2, [(1, .ofNat 0, .ofNat 1)], [], [(0, .inl 0), (1, .inl 32), (2, .inr (false, (1, .ofNat 0)))], [], [], [], []), [(21, 0), (22, 0), (25, 0), (26, 0), (31, 0), (32, 1), (32, 2), (32, 3), (32, 4), (32, 9), (32, 11), (32, 12), (33000037, 0)], [
  (6, [(2, .ofNat 0, .ofNat 4), (3, .ofNat 0, .ofNat 63), (4, .ofNat 0, .ofNat 4095), (5, .negSucc 2147483647, .ofNat 2147483647)], [], [], [], [(32, (0, .ofNat 2), .inr (false, (2, .ofNat 0))), (32, (0, .ofNat 3), .inr (false, (3, .ofNat 0))), (32, (0, .ofNat 8), .inr (false, (4, .ofNat 0))), (32, (0, .ofNat 11), .inr (false, (5, .ofNat 0)))], [], [])], [], 0, 0)
def cu1241 : List sxCu := [
  (2, (3, [(1, .ofNat 0, .ofNat 1), (2, .ofNat 0, .ofNat 12)], [], [(0, .inl 0), (1, .inl 32), (2, .inr (false, (1, .ofNat 0))), (3, .inr (false, (2, .ofNat 0)))], [], [], [], []), ((0, 2, .ofNat 12), (0, 0, .ofNat 0), (0, 0, .ofNat 0)), 0, 0)]
set_option maxRecDepth 1000000 in
theorem cv1241 {gh : sxGh} (hg : sxGd sxKw gh) : sxCtV sxKw gh ct1241 := sxMeB_ok (cts := [ct466]) (cuts := cu1241) (sp := []) 241 (by decide +kernel) hg (by decide) (by decide) (List.forall_mem_cons.mpr ⟨cv466 hg, (fun _ h => absurd h List.not_mem_nil)⟩)
/-- LotBeliefs.Jar.common -/
def ct1291 : sxCt := (28, 0, (3, [(1, .ofNat 0, .ofNat 4095), (2, .ofNat 0, .ofNat 51)], [], [(0, .inl 11), (1, .inr (false, (1, .ofNat 0))), (2, .inr (false, (2, .ofNat 0)))], [], [], [], []), [], [
  (4, [(3, .negSucc 9223372036854775807, .ofNat 9223372036854775807)], [], [], [.inr (true, (3, .ofNat 0))], [], [], [])], [], 0, 0)
def cu1291 : List sxCu := [
  (10, (5, [(1, .ofNat 0, .ofNat 4095), (2, .ofNat 0, .ofNat 51), (3, .negSucc 9223372036854775807, .ofNat 9223372036854775807), (4, .ofNat 0, .ofNat 12)], [], [(0, .inl 11), (1, .inr (false, (1, .ofNat 0))), (2, .inr (false, (2, .ofNat 0))), (3, .inr (true, (3, .ofNat 0))), (5, .inr (false, (4, .ofNat 0)))], [], [(11, (0, .ofNat 11), .inl 16)], [], []), ((0, 4, .ofNat 12), (0, 0, .ofNat 0), (0, 0, .ofNat 0)), 0, 0)]
set_option maxRecDepth 1000000 in
theorem cv1291 {gh : sxGh} (hg : sxGd sxKw gh) : sxCtV sxKw gh ct1291 := sxMeB_ok (cts := []) (cuts := cu1291) (sp := []) 90 (by decide +kernel) hg (by decide) (by decide) (fun _ h => absurd h List.not_mem_nil)
/-- LotBeliefs.right -/
def ct1292 : sxCt := (150, 6, (2, [(1, .ofNat 0, .ofNat 1)], [], [(0, .inl 0), (1, .inr (false, (1, .ofNat 0)))], [], [], [], []), [(21, 0), (22, 0), (25, 0), (26, 0), (31, 0), (32, 1), (32, 2), (32, 3), (32, 4), (32, 9), (32, 11), (32, 12), (33000037, 0)], [
  (7, [(2, .negSucc 0, .ofNat 51), (3, .ofNat 0, .ofNat 4), (4, .ofNat 0, .ofNat 63), (5, .ofNat 0, .ofNat 4095), (6, .negSucc 2147483647, .ofNat 2147483647)], [], [], [.inr (false, (2, .ofNat 0))], [(32, (0, .ofNat 2), .inr (false, (3, .ofNat 0))), (32, (0, .ofNat 3), .inr (false, (4, .ofNat 0))), (32, (0, .ofNat 8), .inr (false, (5, .ofNat 0))), (32, (0, .ofNat 11), .inr (false, (6, .ofNat 0)))], [], [])], [], 0, 0)
def cu1292 : List sxCu := [
  (17, (7, [(1, .ofNat 0, .ofNat 1), (2, .ofNat 0, .ofNat 52), (3, .ofNat 0, .ofNat 4), (4, .ofNat 0, .ofNat 63), (5, .ofNat 0, .ofNat 4095), (6, .negSucc 2147483647, .ofNat 2147483647)], [], [(0, .inl 0), (1, .inr (false, (1, .ofNat 0))), (2, .inr (false, (2, .ofNat 0)))], [], [(0, (0, .ofNat 12), .inl 32), (32, (0, .ofNat 2), .inr (false, (3, .ofNat 0))), (32, (0, .ofNat 3), .inr (false, (4, .ofNat 0))), (32, (0, .ofNat 8), .inr (false, (5, .ofNat 0))), (32, (0, .ofNat 11), .inr (false, (6, .ofNat 0)))], [], []), ((0, 2, .ofNat 52), (0, 0, .ofNat 0), (0, 0, .ofNat 0)), 0, 0)]
set_option maxRecDepth 1000000 in
theorem cv1292 {gh : sxGh} (hg : sxGd sxKw gh) : sxCtV sxKw gh ct1292 := sxMeB_ok (cts := [ct369, ct458, ct1291, ct1241]) (cuts := cu1292) (sp := []) 131 (by decide +kernel) hg (by decide) (by decide) (List.forall_mem_cons.mpr ⟨cv369 hg, (List.forall_mem_cons.mpr ⟨cv458 hg, (List.forall_mem_cons.mpr ⟨cv1291 hg, (List.forall_mem_cons.mpr ⟨cv1241 hg, (fun _ h => absurd h List.not_mem_nil)⟩)⟩)⟩)⟩)
/-- LotBeliefsModel.togetherIn -/
def ct1309 : sxCt := (274, 0, (3, [(1, .negSucc 2147483647, .ofNat 2147483647), (2, .ofNat 0, .ofNat 51)], [], [(0, .inl 78), (1, .inr (false, (1, .ofNat 0))), (2, .inr (false, (2, .ofNat 0)))], [], [], [], []), [], [
  (4, [(3, .negSucc 9223372036854775807, .ofNat 9223372036854775807)], [], [], [.inr (true, (3, .ofNat 0))], [], [], [])], [], 0, 0)
def cu1309 : List sxCu := [
  (10, (5, [(1, .negSucc 2147483647, .ofNat 2147483647), (2, .ofNat 0, .ofNat 51), (3, .negSucc 9223372036854775807, .ofNat 9223372036854775807), (4, .ofNat 0, .ofNat 12)], [], [(0, .inl 78), (1, .inr (false, (1, .ofNat 0))), (2, .inr (false, (2, .ofNat 0))), (3, .inr (true, (3, .ofNat 0))), (5, .inr (false, (4, .ofNat 0)))], [], [(78, (0, .ofNat 19), .inl 89)], [], []), ((0, 4, .ofNat 12), (0, 0, .ofNat 0), (0, 0, .ofNat 0)), 0, 0)]
set_option maxRecDepth 1000000 in
theorem cv1309 {gh : sxGh} (hg : sxGd sxKw gh) : sxCtV sxKw gh ct1309 := sxMeB_ok (cts := []) (cuts := cu1309) (sp := []) 97 (by decide +kernel) hg (by decide) (by decide) (fun _ h => absurd h List.not_mem_nil)
/-- LotBeliefs.killer -/
def ct1311 : sxCt := (152, 6, (3, [(1, .ofNat 0, .ofNat 11), (2, .ofNat 0, .ofNat 12)], [(1, 2, .negSucc 0)], [(0, .inl 0), (1, .inr (false, (1, .ofNat 0)))], [], [(0, (0, .ofNat 2), .inl 3), (3, (0, .ofNat 2), .inr (false, (2, .ofNat 0)))], [], []), [(21, 0), (22, 0), (25, 0), (26, 0), (32, 1), (32, 2), (32, 3), (32, 4), (32, 9), (32, 11), (32, 12), (33000037, 0)], [
  (8, [(3, .negSucc 0, .ofNat 11), (4, .ofNat 0, .ofNat 4), (5, .ofNat 0, .ofNat 63), (6, .ofNat 0, .ofNat 4095), (7, .negSucc 2147483647, .ofNat 2147483647)], [], [], [.inr (false, (3, .ofNat 0))], [(0, (0, .ofNat 2), .inl 3), (3, (0, .ofNat 2), .inr (false, (2, .ofNat 0))), (32, (0, .ofNat 0), .inl 3), (32, (0, .ofNat 2), .inr (false, (4, .ofNat 0))), (32, (0, .ofNat 3), .inr (false, (5, .ofNat 0))), (32, (0, .ofNat 8), .inr (false, (6, .ofNat 0))), (32, (0, .ofNat 11), .inr (false, (7, .ofNat 0)))], [], [])], [], 0, 0)
def cu1311 : List sxCu := [
  (36, (9, [(1, .ofNat 0, .ofNat 11), (2, .ofNat 0, .ofNat 12), (3, .negSucc 9223372036854775807, .ofNat 9223372036854775807), (4, .ofNat 0, .ofNat 12), (5, .ofNat 0, .ofNat 4), (6, .ofNat 0, .ofNat 63), (7, .ofNat 0, .ofNat 4095), (8, .negSucc 2147483647, .ofNat 2147483647)], [(1, 2, .negSucc 0)], [(0, .inl 0), (1, .inr (false, (1, .ofNat 0))), (2, .inr (true, (3, .ofNat 0))), (4, .inr (false, (4, .ofNat 0)))], [], [(0, (0, .ofNat 2), .inl 3), (0, (0, .ofNat 7), .inl 27), (0, (0, .ofNat 12), .inl 32), (3, (0, .ofNat 2), .inr (false, (2, .ofNat 0))), (3, (0, .ofNat 7), .inl 4), (27, (0, .ofNat 0), .inl 28), (27, (0, .ofNat 1), .inr (false, (5, .ofNat 0))), (27, (0, .ofNat 2), .inr (false, (6, .ofNat 0))), (32, (0, .ofNat 0), .inl 3), (32, (0, .ofNat 2), .inr (false, (5, .ofNat 0))), (32, (0, .ofNat 3), .inr (false, (6, .ofNat 0))), (32, (0, .ofNat 7), .inl 36), (32, (0, .ofNat 8), .inr (false, (7, .ofNat 0))), (32, (0, .ofNat 11), .inr (false, (8, .ofNat 0)))], [], []), ((0, 4, .ofNat 12), (0, 0, .ofNat 0), (0, 0, .ofNat 0)), 0, 0)]
set_option maxRecDepth 1000000 in
theorem cv1311 {gh : sxGh} (hg : sxGd sxKw gh) : sxCtV sxKw gh ct1311 := sxMeB_ok (cts := [ct368]) (cuts := cu1311) (sp := []) 215 (by decide +kernel) hg (by decide) (by decide) (List.forall_mem_cons.mpr ⟨cv368 hg, (fun _ h => absurd h List.not_mem_nil)⟩)
/-- LotBeliefs.following -/
def ct1313 : sxCt := (154, 2, (3, [(1, .ofNat 0, .ofNat 4095), (2, .ofNat 0, .ofNat 51)], [], [(0, .inl 0), (1, .inr (false, (1, .ofNat 0))), (2, .inr (false, (2, .ofNat 0)))], [], [(0, (0, .ofNat 2), .inl 3), (3, (0, .ofNat 2), .inr (false, (0, .ofNat 12)))], [], []), [], [
  (4, [(3, .ofNat 0, .ofNat 4095)], [], [], [.inr (false, (3, .ofNat 0))], [(0, (0, .ofNat 2), .inl 3), (3, (0, .ofNat 2), .inr (false, (0, .ofNat 12)))], [], [])], [], 0, 0)
def cu1313 : List sxCu := [
  (33, (6, [(1, .ofNat 0, .ofNat 4095), (2, .ofNat 0, .ofNat 51), (3, .negSucc 9223372036854775807, .ofNat 9223372036854775807), (4, .ofNat 0, .ofNat 4095), (5, .ofNat 0, .ofNat 12)], [], [(0, .inl 0), (1, .inr (false, (1, .ofNat 0))), (2, .inr (false, (2, .ofNat 0))), (3, .inr (true, (3, .ofNat 0))), (5, .inr (false, (4, .ofNat 0))), (6, .inr (false, (5, .ofNat 0)))], [], [(0, (0, .ofNat 2), .inl 3), (3, (0, .ofNat 2), .inr (false, (0, .ofNat 12)))], [], []), ((0, 5, .ofNat 12), (0, 0, .ofNat 0), (0, 0, .ofNat 0)), 0, 0)]
set_option maxRecDepth 1000000 in
theorem cv1313 {gh : sxGh} (hg : sxGd sxKw gh) : sxCtV sxKw gh ct1313 := sxMeB_ok (cts := [ct458]) (cuts := cu1313) (sp := []) 137 (by decide +kernel) hg (by decide) (by decide) (List.forall_mem_cons.mpr ⟨cv458 hg, (fun _ h => absurd h List.not_mem_nil)⟩)
/-- LotBeliefsModel.followingOf -/
def ct1314 : sxCt := (297, 0, (2, [(1, .negSucc 9223372036854775807, .ofNat 9223372036854775807)], [], [(0, .inl 78), (1, .inr (true, (1, .ofNat 0)))], [], [], [], []), [], [
  (3, [(2, .ofNat 0, .ofNat 4095)], [], [], [.inr (false, (2, .ofNat 0))], [], [], [])], [], 0, 0)
def cu1314 : List sxCu := [
  (5, (4, [(1, .negSucc 9223372036854775807, .ofNat 9223372036854775807), (2, .ofNat 0, .ofNat 4095), (3, .ofNat 0, .ofNat 12)], [], [(0, .inl 78), (1, .inr (true, (1, .ofNat 0))), (3, .inr (false, (2, .ofNat 0))), (4, .inr (false, (3, .ofNat 0)))], [], [], [], []), ((0, 3, .ofNat 12), (0, 0, .ofNat 0), (0, 0, .ofNat 0)), 0, 0)]
set_option maxRecDepth 1000000 in
theorem cv1314 {gh : sxGh} (hg : sxGd sxKw gh) : sxCtV sxKw gh ct1314 := sxMeB_ok (cts := []) (cuts := cu1314) (sp := []) 104 (by decide +kernel) hg (by decide) (by decide) (fun _ h => absurd h List.not_mem_nil)
/-- LotBeliefs.following -/
def ct1315 : sxCt := (154, 2, (3, [(1, .ofNat 0, .ofNat 2047), (2, .ofNat 0, .ofNat 51)], [], [(0, .inl 0), (1, .inr (false, (1, .ofNat 0))), (2, .inr (false, (2, .ofNat 0)))], [], [(0, (0, .ofNat 2), .inl 3), (3, (0, .ofNat 2), .inr (false, (0, .ofNat 11)))], [], []), [], [
  (4, [(3, .ofNat 0, .ofNat 4095)], [], [], [.inr (false, (3, .ofNat 0))], [(0, (0, .ofNat 2), .inl 3), (3, (0, .ofNat 2), .inr (false, (0, .ofNat 11)))], [], [])], [], 0, 0)
def cu1315 : List sxCu := [
  (33, (6, [(1, .ofNat 0, .ofNat 2047), (2, .ofNat 0, .ofNat 51), (3, .negSucc 9223372036854775807, .ofNat 9223372036854775807), (4, .ofNat 0, .ofNat 4095), (5, .ofNat 0, .ofNat 11)], [], [(0, .inl 0), (1, .inr (false, (1, .ofNat 0))), (2, .inr (false, (2, .ofNat 0))), (3, .inr (true, (3, .ofNat 0))), (5, .inr (false, (4, .ofNat 0))), (6, .inr (false, (5, .ofNat 0)))], [], [(0, (0, .ofNat 2), .inl 3), (3, (0, .ofNat 2), .inr (false, (0, .ofNat 11)))], [], []), ((0, 5, .ofNat 11), (0, 0, .ofNat 0), (0, 0, .ofNat 0)), 0, 0)]
set_option maxRecDepth 1000000 in
theorem cv1315 {gh : sxGh} (hg : sxGd sxKw gh) : sxCtV sxKw gh ct1315 := sxMeB_ok (cts := [ct458]) (cuts := cu1315) (sp := []) 137 (by decide +kernel) hg (by decide) (by decide) (List.forall_mem_cons.mpr ⟨cv458 hg, (fun _ h => absurd h List.not_mem_nil)⟩)
/-- LotBeliefs.following -/
def ct1316 : sxCt := (154, 2, (3, [(1, .ofNat 0, .ofNat 1023), (2, .ofNat 0, .ofNat 51)], [], [(0, .inl 0), (1, .inr (false, (1, .ofNat 0))), (2, .inr (false, (2, .ofNat 0)))], [], [(0, (0, .ofNat 2), .inl 3), (3, (0, .ofNat 2), .inr (false, (0, .ofNat 10)))], [], []), [], [
  (4, [(3, .ofNat 0, .ofNat 4095)], [], [], [.inr (false, (3, .ofNat 0))], [(0, (0, .ofNat 2), .inl 3), (3, (0, .ofNat 2), .inr (false, (0, .ofNat 10)))], [], [])], [], 0, 0)
def cu1316 : List sxCu := [
  (33, (6, [(1, .ofNat 0, .ofNat 1023), (2, .ofNat 0, .ofNat 51), (3, .negSucc 9223372036854775807, .ofNat 9223372036854775807), (4, .ofNat 0, .ofNat 4095), (5, .ofNat 0, .ofNat 10)], [], [(0, .inl 0), (1, .inr (false, (1, .ofNat 0))), (2, .inr (false, (2, .ofNat 0))), (3, .inr (true, (3, .ofNat 0))), (5, .inr (false, (4, .ofNat 0))), (6, .inr (false, (5, .ofNat 0)))], [], [(0, (0, .ofNat 2), .inl 3), (3, (0, .ofNat 2), .inr (false, (0, .ofNat 10)))], [], []), ((0, 5, .ofNat 10), (0, 0, .ofNat 0), (0, 0, .ofNat 0)), 0, 0)]
set_option maxRecDepth 1000000 in
theorem cv1316 {gh : sxGh} (hg : sxGd sxKw gh) : sxCtV sxKw gh ct1316 := sxMeB_ok (cts := [ct458]) (cuts := cu1316) (sp := []) 137 (by decide +kernel) hg (by decide) (by decide) (List.forall_mem_cons.mpr ⟨cv458 hg, (fun _ h => absurd h List.not_mem_nil)⟩)
/-- LotBeliefs.following -/
def ct1317 : sxCt := (154, 2, (3, [(1, .ofNat 0, .ofNat 511), (2, .ofNat 0, .ofNat 51)], [], [(0, .inl 0), (1, .inr (false, (1, .ofNat 0))), (2, .inr (false, (2, .ofNat 0)))], [], [(0, (0, .ofNat 2), .inl 3), (3, (0, .ofNat 2), .inr (false, (0, .ofNat 9)))], [], []), [], [
  (4, [(3, .ofNat 0, .ofNat 4095)], [], [], [.inr (false, (3, .ofNat 0))], [(0, (0, .ofNat 2), .inl 3), (3, (0, .ofNat 2), .inr (false, (0, .ofNat 9)))], [], [])], [], 0, 0)
def cu1317 : List sxCu := [
  (33, (6, [(1, .ofNat 0, .ofNat 511), (2, .ofNat 0, .ofNat 51), (3, .negSucc 9223372036854775807, .ofNat 9223372036854775807), (4, .ofNat 0, .ofNat 4095), (5, .ofNat 0, .ofNat 9)], [], [(0, .inl 0), (1, .inr (false, (1, .ofNat 0))), (2, .inr (false, (2, .ofNat 0))), (3, .inr (true, (3, .ofNat 0))), (5, .inr (false, (4, .ofNat 0))), (6, .inr (false, (5, .ofNat 0)))], [], [(0, (0, .ofNat 2), .inl 3), (3, (0, .ofNat 2), .inr (false, (0, .ofNat 9)))], [], []), ((0, 5, .ofNat 9), (0, 0, .ofNat 0), (0, 0, .ofNat 0)), 0, 0)]
set_option maxRecDepth 1000000 in
theorem cv1317 {gh : sxGh} (hg : sxGd sxKw gh) : sxCtV sxKw gh ct1317 := sxMeB_ok (cts := [ct982]) (cuts := cu1317) (sp := []) 137 (by decide +kernel) hg (by decide) (by decide) (List.forall_mem_cons.mpr ⟨cv982 hg, (fun _ h => absurd h List.not_mem_nil)⟩)
/-- LotBeliefs.following -/
def ct1318 : sxCt := (154, 2, (3, [(1, .ofNat 0, .ofNat 255), (2, .ofNat 0, .ofNat 51)], [], [(0, .inl 0), (1, .inr (false, (1, .ofNat 0))), (2, .inr (false, (2, .ofNat 0)))], [], [(0, (0, .ofNat 2), .inl 3), (3, (0, .ofNat 2), .inr (false, (0, .ofNat 8)))], [], []), [], [
  (4, [(3, .ofNat 0, .ofNat 255)], [], [], [.inr (false, (3, .ofNat 0))], [(0, (0, .ofNat 2), .inl 3), (3, (0, .ofNat 2), .inr (false, (0, .ofNat 8)))], [], [])], [], 0, 0)
def cu1318 : List sxCu := [
  (33, (6, [(1, .ofNat 0, .ofNat 255), (2, .ofNat 0, .ofNat 51), (3, .negSucc 9223372036854775807, .ofNat 9223372036854775807), (4, .ofNat 0, .ofNat 255), (5, .ofNat 0, .ofNat 8)], [], [(0, .inl 0), (1, .inr (false, (1, .ofNat 0))), (2, .inr (false, (2, .ofNat 0))), (3, .inr (true, (3, .ofNat 0))), (5, .inr (false, (4, .ofNat 0))), (6, .inr (false, (5, .ofNat 0)))], [], [(0, (0, .ofNat 2), .inl 3), (3, (0, .ofNat 2), .inr (false, (0, .ofNat 8)))], [], []), ((0, 5, .ofNat 8), (0, 0, .ofNat 0), (0, 0, .ofNat 0)), 0, 0)]
set_option maxRecDepth 1000000 in
theorem cv1318 {gh : sxGh} (hg : sxGd sxKw gh) : sxCtV sxKw gh ct1318 := sxMeB_ok (cts := [ct984]) (cuts := cu1318) (sp := []) 137 (by decide +kernel) hg (by decide) (by decide) (List.forall_mem_cons.mpr ⟨cv984 hg, (fun _ h => absurd h List.not_mem_nil)⟩)
/-- LotBeliefs.following -/
def ct1319 : sxCt := (154, 2, (3, [(1, .ofNat 0, .ofNat 127), (2, .ofNat 0, .ofNat 51)], [], [(0, .inl 0), (1, .inr (false, (1, .ofNat 0))), (2, .inr (false, (2, .ofNat 0)))], [], [(0, (0, .ofNat 2), .inl 3), (3, (0, .ofNat 2), .inr (false, (0, .ofNat 7)))], [], []), [], [
  (4, [(3, .ofNat 0, .ofNat 127)], [], [], [.inr (false, (3, .ofNat 0))], [(0, (0, .ofNat 2), .inl 3), (3, (0, .ofNat 2), .inr (false, (0, .ofNat 7)))], [], [])], [], 0, 0)
def cu1319 : List sxCu := [
  (33, (6, [(1, .ofNat 0, .ofNat 127), (2, .ofNat 0, .ofNat 51), (3, .negSucc 9223372036854775807, .ofNat 9223372036854775807), (4, .ofNat 0, .ofNat 127), (5, .ofNat 0, .ofNat 7)], [], [(0, .inl 0), (1, .inr (false, (1, .ofNat 0))), (2, .inr (false, (2, .ofNat 0))), (3, .inr (true, (3, .ofNat 0))), (5, .inr (false, (4, .ofNat 0))), (6, .inr (false, (5, .ofNat 0)))], [], [(0, (0, .ofNat 2), .inl 3), (3, (0, .ofNat 2), .inr (false, (0, .ofNat 7)))], [], []), ((0, 5, .ofNat 7), (0, 0, .ofNat 0), (0, 0, .ofNat 0)), 0, 0)]
set_option maxRecDepth 1000000 in
theorem cv1319 {gh : sxGh} (hg : sxGd sxKw gh) : sxCtV sxKw gh ct1319 := sxMeB_ok (cts := [ct986]) (cuts := cu1319) (sp := []) 137 (by decide +kernel) hg (by decide) (by decide) (List.forall_mem_cons.mpr ⟨cv986 hg, (fun _ h => absurd h List.not_mem_nil)⟩)
/-- LotBeliefs.following -/
def ct1320 : sxCt := (154, 2, (3, [(1, .ofNat 0, .ofNat 63), (2, .ofNat 0, .ofNat 51)], [], [(0, .inl 0), (1, .inr (false, (1, .ofNat 0))), (2, .inr (false, (2, .ofNat 0)))], [], [(0, (0, .ofNat 2), .inl 3), (3, (0, .ofNat 2), .inr (false, (0, .ofNat 6)))], [], []), [], [
  (4, [(3, .ofNat 0, .ofNat 63)], [], [], [.inr (false, (3, .ofNat 0))], [(0, (0, .ofNat 2), .inl 3), (3, (0, .ofNat 2), .inr (false, (0, .ofNat 6)))], [], [])], [], 0, 0)
def cu1320 : List sxCu := [
  (33, (6, [(1, .ofNat 0, .ofNat 63), (2, .ofNat 0, .ofNat 51), (3, .negSucc 9223372036854775807, .ofNat 9223372036854775807), (4, .ofNat 0, .ofNat 63), (5, .ofNat 0, .ofNat 6)], [], [(0, .inl 0), (1, .inr (false, (1, .ofNat 0))), (2, .inr (false, (2, .ofNat 0))), (3, .inr (true, (3, .ofNat 0))), (5, .inr (false, (4, .ofNat 0))), (6, .inr (false, (5, .ofNat 0)))], [], [(0, (0, .ofNat 2), .inl 3), (3, (0, .ofNat 2), .inr (false, (0, .ofNat 6)))], [], []), ((0, 5, .ofNat 6), (0, 0, .ofNat 0), (0, 0, .ofNat 0)), 0, 0)]
set_option maxRecDepth 1000000 in
theorem cv1320 {gh : sxGh} (hg : sxGd sxKw gh) : sxCtV sxKw gh ct1320 := sxMeB_ok (cts := [ct988]) (cuts := cu1320) (sp := []) 137 (by decide +kernel) hg (by decide) (by decide) (List.forall_mem_cons.mpr ⟨cv988 hg, (fun _ h => absurd h List.not_mem_nil)⟩)
/-- LotBeliefs.following -/
def ct1321 : sxCt := (154, 2, (3, [(1, .ofNat 0, .ofNat 31), (2, .ofNat 0, .ofNat 51)], [], [(0, .inl 0), (1, .inr (false, (1, .ofNat 0))), (2, .inr (false, (2, .ofNat 0)))], [], [(0, (0, .ofNat 2), .inl 3), (3, (0, .ofNat 2), .inr (false, (0, .ofNat 5)))], [], []), [], [
  (4, [(3, .ofNat 0, .ofNat 63)], [], [], [.inr (false, (3, .ofNat 0))], [(0, (0, .ofNat 2), .inl 3), (3, (0, .ofNat 2), .inr (false, (0, .ofNat 5)))], [], [])], [], 0, 0)
def cu1321 : List sxCu := [
  (33, (6, [(1, .ofNat 0, .ofNat 31), (2, .ofNat 0, .ofNat 51), (3, .negSucc 9223372036854775807, .ofNat 9223372036854775807), (4, .ofNat 0, .ofNat 63), (5, .ofNat 0, .ofNat 5)], [], [(0, .inl 0), (1, .inr (false, (1, .ofNat 0))), (2, .inr (false, (2, .ofNat 0))), (3, .inr (true, (3, .ofNat 0))), (5, .inr (false, (4, .ofNat 0))), (6, .inr (false, (5, .ofNat 0)))], [], [(0, (0, .ofNat 2), .inl 3), (3, (0, .ofNat 2), .inr (false, (0, .ofNat 5)))], [], []), ((0, 5, .ofNat 5), (0, 0, .ofNat 0), (0, 0, .ofNat 0)), 0, 0)]
set_option maxRecDepth 1000000 in
theorem cv1321 {gh : sxGh} (hg : sxGd sxKw gh) : sxCtV sxKw gh ct1321 := sxMeB_ok (cts := [ct990]) (cuts := cu1321) (sp := []) 137 (by decide +kernel) hg (by decide) (by decide) (List.forall_mem_cons.mpr ⟨cv990 hg, (fun _ h => absurd h List.not_mem_nil)⟩)
/-- LotBeliefs.following -/
def ct1322 : sxCt := (154, 2, (3, [(1, .ofNat 0, .ofNat 15), (2, .ofNat 0, .ofNat 51)], [], [(0, .inl 0), (1, .inr (false, (1, .ofNat 0))), (2, .inr (false, (2, .ofNat 0)))], [], [(0, (0, .ofNat 2), .inl 3), (3, (0, .ofNat 2), .inr (false, (0, .ofNat 4)))], [], []), [], [
  (4, [(3, .ofNat 0, .ofNat 15)], [], [], [.inr (false, (3, .ofNat 0))], [(0, (0, .ofNat 2), .inl 3), (3, (0, .ofNat 2), .inr (false, (0, .ofNat 4)))], [], [])], [], 0, 0)
def cu1322 : List sxCu := [
  (33, (6, [(1, .ofNat 0, .ofNat 15), (2, .ofNat 0, .ofNat 51), (3, .negSucc 9223372036854775807, .ofNat 9223372036854775807), (4, .ofNat 0, .ofNat 15), (5, .ofNat 0, .ofNat 4)], [], [(0, .inl 0), (1, .inr (false, (1, .ofNat 0))), (2, .inr (false, (2, .ofNat 0))), (3, .inr (true, (3, .ofNat 0))), (5, .inr (false, (4, .ofNat 0))), (6, .inr (false, (5, .ofNat 0)))], [], [(0, (0, .ofNat 2), .inl 3), (3, (0, .ofNat 2), .inr (false, (0, .ofNat 4)))], [], []), ((0, 5, .ofNat 4), (0, 0, .ofNat 0), (0, 0, .ofNat 0)), 0, 0)]
set_option maxRecDepth 1000000 in
theorem cv1322 {gh : sxGh} (hg : sxGd sxKw gh) : sxCtV sxKw gh ct1322 := sxMeB_ok (cts := [ct992]) (cuts := cu1322) (sp := []) 137 (by decide +kernel) hg (by decide) (by decide) (List.forall_mem_cons.mpr ⟨cv992 hg, (fun _ h => absurd h List.not_mem_nil)⟩)
/-- LotBeliefs.following -/
def ct1323 : sxCt := (154, 2, (3, [(1, .ofNat 0, .ofNat 7), (2, .ofNat 0, .ofNat 51)], [], [(0, .inl 0), (1, .inr (false, (1, .ofNat 0))), (2, .inr (false, (2, .ofNat 0)))], [], [(0, (0, .ofNat 2), .inl 3), (3, (0, .ofNat 2), .inr (false, (0, .ofNat 3)))], [], []), [], [
  (4, [(3, .ofNat 0, .ofNat 7)], [], [], [.inr (false, (3, .ofNat 0))], [(0, (0, .ofNat 2), .inl 3), (3, (0, .ofNat 2), .inr (false, (0, .ofNat 3)))], [], [])], [], 0, 0)
def cu1323 : List sxCu := [
  (33, (6, [(1, .ofNat 0, .ofNat 7), (2, .ofNat 0, .ofNat 51), (3, .negSucc 9223372036854775807, .ofNat 9223372036854775807), (4, .ofNat 0, .ofNat 7), (5, .ofNat 0, .ofNat 3)], [], [(0, .inl 0), (1, .inr (false, (1, .ofNat 0))), (2, .inr (false, (2, .ofNat 0))), (3, .inr (true, (3, .ofNat 0))), (5, .inr (false, (4, .ofNat 0))), (6, .inr (false, (5, .ofNat 0)))], [], [(0, (0, .ofNat 2), .inl 3), (3, (0, .ofNat 2), .inr (false, (0, .ofNat 3)))], [], []), ((0, 5, .ofNat 3), (0, 0, .ofNat 0), (0, 0, .ofNat 0)), 0, 0)]
set_option maxRecDepth 1000000 in
theorem cv1323 {gh : sxGh} (hg : sxGd sxKw gh) : sxCtV sxKw gh ct1323 := sxMeB_ok (cts := [ct994]) (cuts := cu1323) (sp := []) 137 (by decide +kernel) hg (by decide) (by decide) (List.forall_mem_cons.mpr ⟨cv994 hg, (fun _ h => absurd h List.not_mem_nil)⟩)
/-- LotBeliefs.following -/
def ct1324 : sxCt := (154, 2, (3, [(1, .ofNat 0, .ofNat 3), (2, .ofNat 0, .ofNat 51)], [], [(0, .inl 0), (1, .inr (false, (1, .ofNat 0))), (2, .inr (false, (2, .ofNat 0)))], [], [(0, (0, .ofNat 2), .inl 3), (3, (0, .ofNat 2), .inr (false, (0, .ofNat 2)))], [], []), [], [
  (4, [(3, .ofNat 0, .ofNat 3)], [], [], [.inr (false, (3, .ofNat 0))], [(0, (0, .ofNat 2), .inl 3), (3, (0, .ofNat 2), .inr (false, (0, .ofNat 2)))], [], [])], [], 0, 0)
def cu1324 : List sxCu := [
  (33, (6, [(1, .ofNat 0, .ofNat 3), (2, .ofNat 0, .ofNat 51), (3, .negSucc 9223372036854775807, .ofNat 9223372036854775807), (4, .ofNat 0, .ofNat 3), (5, .ofNat 0, .ofNat 2)], [], [(0, .inl 0), (1, .inr (false, (1, .ofNat 0))), (2, .inr (false, (2, .ofNat 0))), (3, .inr (true, (3, .ofNat 0))), (5, .inr (false, (4, .ofNat 0))), (6, .inr (false, (5, .ofNat 0)))], [], [(0, (0, .ofNat 2), .inl 3), (3, (0, .ofNat 2), .inr (false, (0, .ofNat 2)))], [], []), ((0, 5, .ofNat 2), (0, 0, .ofNat 0), (0, 0, .ofNat 0)), 0, 0)]
set_option maxRecDepth 1000000 in
theorem cv1324 {gh : sxGh} (hg : sxGd sxKw gh) : sxCtV sxKw gh ct1324 := sxMeB_ok (cts := [ct996]) (cuts := cu1324) (sp := []) 137 (by decide +kernel) hg (by decide) (by decide) (List.forall_mem_cons.mpr ⟨cv996 hg, (fun _ h => absurd h List.not_mem_nil)⟩)
/-- LotBeliefs.following -/
def ct1325 : sxCt := (154, 2, (3, [(1, .ofNat 0, .ofNat 1), (2, .ofNat 0, .ofNat 51)], [], [(0, .inl 0), (1, .inr (false, (1, .ofNat 0))), (2, .inr (false, (2, .ofNat 0)))], [], [(0, (0, .ofNat 2), .inl 3), (3, (0, .ofNat 2), .inr (false, (0, .ofNat 1)))], [], []), [], [
  (4, [(3, .ofNat 0, .ofNat 1)], [], [], [.inr (false, (3, .ofNat 0))], [(0, (0, .ofNat 2), .inl 3), (3, (0, .ofNat 2), .inr (false, (0, .ofNat 1)))], [], [])], [], 0, 0)
def cu1325 : List sxCu := [
  (33, (6, [(1, .ofNat 0, .ofNat 1), (2, .ofNat 0, .ofNat 51), (3, .negSucc 9223372036854775807, .ofNat 9223372036854775807), (4, .ofNat 0, .ofNat 1), (5, .ofNat 0, .ofNat 1)], [(4, 5, .ofNat 0)], [(0, .inl 0), (1, .inr (false, (1, .ofNat 0))), (2, .inr (false, (2, .ofNat 0))), (3, .inr (true, (3, .ofNat 0))), (5, .inr (false, (4, .ofNat 0))), (6, .inr (false, (5, .ofNat 0)))], [], [(0, (0, .ofNat 2), .inl 3), (3, (0, .ofNat 2), .inr (false, (0, .ofNat 1)))], [], []), ((0, 5, .ofNat 1), (0, 0, .ofNat 0), (0, 0, .ofNat 0)), 0, 0)]
set_option maxRecDepth 1000000 in
theorem cv1325 {gh : sxGh} (hg : sxGd sxKw gh) : sxCtV sxKw gh ct1325 := sxMeB_ok (cts := [ct998]) (cuts := cu1325) (sp := []) 137 (by decide +kernel) hg (by decide) (by decide) (List.forall_mem_cons.mpr ⟨cv998 hg, (fun _ h => absurd h List.not_mem_nil)⟩)
/-- LotBeliefs.following -/
def ct1326 : sxCt := (154, 2, (3, [(1, .ofNat 0, .ofNat 0), (2, .ofNat 0, .ofNat 51)], [], [(0, .inl 0), (1, .inr (false, (1, .ofNat 0))), (2, .inr (false, (2, .ofNat 0)))], [], [(0, (0, .ofNat 2), .inl 3), (3, (0, .ofNat 2), .inr (false, (0, .ofNat 0)))], [], []), [], [
  (3, [], [], [], [.inr (false, (0, .ofNat 0))], [(0, (0, .ofNat 2), .inl 3), (3, (0, .ofNat 2), .inr (false, (0, .ofNat 0)))], [], [])], [], 0, 0)
def cu1326 : List sxCu := [
  (33, (4, [(1, .ofNat 0, .ofNat 0), (2, .ofNat 0, .ofNat 51), (3, .negSucc 9223372036854775807, .ofNat 9223372036854775807)], [], [(0, .inl 0), (1, .inr (false, (1, .ofNat 0))), (2, .inr (false, (2, .ofNat 0))), (3, .inr (true, (3, .ofNat 0))), (5, .inr (false, (0, .ofNat 0))), (6, .inr (false, (0, .ofNat 0)))], [], [(0, (0, .ofNat 2), .inl 3), (3, (0, .ofNat 2), .inr (false, (0, .ofNat 0)))], [], []), ((0, 1, .ofNat 0), (0, 0, .ofNat 0), (0, 0, .ofNat 0)), 0, 0)]
set_option maxRecDepth 1000000 in
theorem cv1326 {gh : sxGh} (hg : sxGd sxKw gh) : sxCtV sxKw gh ct1326 := sxMeB_ok (cts := [ct998]) (cuts := cu1326) (sp := []) 111 (by decide +kernel) hg (by decide) (by decide) (List.forall_mem_cons.mpr ⟨cv998 hg, (fun _ h => absurd h List.not_mem_nil)⟩)
/-- LotBeliefs.eldest -/
def ct1327 : sxCt := (155, 6, (2, [(1, .ofNat 0, .ofNat 51)], [], [(0, .inl 0), (1, .inr (false, (1, .ofNat 0)))], [], [], [], []), [(21, 0), (22, 0), (25, 0), (26, 0), (32, 1), (32, 2), (32, 3), (32, 4), (32, 9), (32, 11), (32, 12), (33000037, 0)], [
  (7, [(2, .negSucc 0, .ofNat 16), (3, .ofNat 0, .ofNat 4), (4, .ofNat 0, .ofNat 63), (5, .ofNat 0, .ofNat 4095), (6, .negSucc 2147483647, .ofNat 2147483647)], [], [], [.inr (false, (2, .ofNat 0))], [(32, (0, .ofNat 2), .inr (false, (3, .ofNat 0))), (32, (0, .ofNat 3), .inr (false, (4, .ofNat 0))), (32, (0, .ofNat 8), .inr (false, (5, .ofNat 0))), (32, (0, .ofNat 11), .inr (false, (6, .ofNat 0)))], [], [])], [], 0, 0)
def cu1327 : List sxCu := [
  (20, (8, [(1, .ofNat 0, .ofNat 51), (2, .ofNat 0, .ofNat 4095), (3, .ofNat 0, .ofNat 12), (4, .ofNat 0, .ofNat 4), (5, .ofNat 0, .ofNat 63), (6, .ofNat 0, .ofNat 4095), (7, .negSucc 2147483647, .ofNat 2147483647)], [], [(0, .inl 0), (1, .inr (false, (1, .ofNat 0))), (2, .inr (false, (2, .ofNat 0))), (3, .inr (false, (3, .ofNat 0)))], [], [(0, (0, .ofNat 7), .inl 27), (0, (0, .ofNat 12), .inl 32), (27, (0, .ofNat 0), .inl 28), (27, (0, .ofNat 1), .inr (false, (4, .ofNat 0))), (27, (0, .ofNat 2), .inr (false, (5, .ofNat 0))), (32, (0, .ofNat 2), .inr (false, (4, .ofNat 0))), (32, (0, .ofNat 3), .inr (false, (5, .ofNat 0))), (32, (0, .ofNat 8), .inr (false, (6, .ofNat 0))), (32, (0, .ofNat 11), .inr (false, (7, .ofNat 0)))], [], []), ((0, 3, .ofNat 12), (0, 0, .ofNat 0), (0, 0, .ofNat 0)), 0, 0)]
set_option maxRecDepth 1000000 in
theorem cv1327 {gh : sxGh} (hg : sxGd sxKw gh) : sxCtV sxKw gh ct1327 := sxMeB_ok (cts := [ct368, ct369]) (cuts := cu1327) (sp := []) 287 (by decide +kernel) hg (by decide) (by decide) (List.forall_mem_cons.mpr ⟨cv368 hg, (List.forall_mem_cons.mpr ⟨cv369 hg, (fun _ h => absurd h List.not_mem_nil)⟩)⟩)
/-- LotBeliefs.quarrels -/
def ct1328 : sxCt := (156, 2, (2, [(1, .ofNat 0, .ofNat 51)], [], [(0, .inl 0), (1, .inr (false, (1, .ofNat 0)))], [], [], [], []), [], [
  (3, [(2, .negSucc 2147483647, .ofNat 2147483647)], [], [], [.inr (false, (2, .ofNat 0))], [], [], [])], [], 0, 0)
def cu1328 : List sxCu := [
  (25, (5, [(1, .ofNat 0, .ofNat 51), (2, .negSucc 2147483647, .ofNat 2147483647), (3, .ofNat 0, .ofNat 11), (4, .ofNat 1, .ofNat 12)], [(3, 4, .negSucc 0)], [(0, .inl 0), (1, .inr (false, (1, .ofNat 0))), (2, .inr (false, (2, .ofNat 0))), (3, .inr (false, (3, .ofNat 0))), (4, .inr (false, (4, .ofNat 0)))], [], [], [], []), ((0, 3, .ofNat 12), (0, 4, .ofNat 12), (0, 0, .ofNat 0)), 0, 0), 
  (9, (4, [(1, .ofNat 0, .ofNat 51), (2, .negSucc 2147483647, .ofNat 2147483647), (3, .ofNat 0, .ofNat 12)], [], [(0, .inl 0), (1, .inr (false, (1, .ofNat 0))), (2, .inr (false, (2, .ofNat 0))), (3, .inr (false, (3, .ofNat 0)))], [], [], [], []), ((0, 3, .ofNat 12), (0, 0, .ofNat 12), (0, 0, .ofNat 0)), 0, 0)]
set_option maxRecDepth 1000000 in
theorem cv1328 {gh : sxGh} (hg : sxGd sxKw gh) : sxCtV sxKw gh ct1328 := sxMeB_ok (cts := []) (cuts := cu1328) (sp := []) 192 (by decide +kernel) hg (by decide) (by decide) (fun _ h => absurd h List.not_mem_nil)
/-- LotBeliefsModel.quarrels -/
def ct1329 : sxCt := (307, 2, (2, [(1, .ofNat 0, .ofNat 51)], [], [(0, .inl 78), (1, .inr (false, (1, .ofNat 0)))], [], [], [], []), [(78, 1)], [
  (3, [(2, .negSucc 2147483647, .ofNat 2147483647)], [], [], [.inr (false, (2, .ofNat 0))], [(78, (0, .ofNat 0), .inr (false, (0, .ofNat 0)))], [], [])], [], 0, 0)
def cu1329 : List sxCu := [
  (32, (4, [(1, .ofNat 0, .ofNat 51), (2, .negSucc 2147483647, .ofNat 2147483647), (3, .ofNat 0, .ofNat 12)], [], [(0, .inl 78), (1, .inr (false, (1, .ofNat 0))), (2, .inr (false, (2, .ofNat 0))), (3, .inr (false, (3, .ofNat 0)))], [], [(78, (0, .ofNat 0), .inr (false, (0, .ofNat 0)))], [], []), ((0, 3, .ofNat 12), (0, 0, .ofNat 12), (0, 0, .ofNat 0)), 0, 0), 
  (47, (6, [(1, .ofNat 0, .ofNat 51), (2, .negSucc 2147483647, .ofNat 2147483647), (3, .ofNat 0, .ofNat 11), (4, .ofNat 1, .ofNat 12), (5, .ofNat 1, .ofNat 12)], [(3, 4, .negSucc 0), (3, 5, .negSucc 0)], [(0, .inl 78), (1, .inr (false, (1, .ofNat 0))), (2, .inr (false, (2, .ofNat 0))), (3, .inr (false, (3, .ofNat 0))), (4, .inr (false, (4, .ofNat 0)))], [], [(78, (0, .ofNat 0), .inr (false, (0, .ofNat 0))), (78, (0, .ofNat 12), .inl 82), (82, (0, .ofNat 1), .inr (false, (5, .ofNat 0)))], [], []), ((0, 3, .ofNat 12), (0, 4, .ofNat 12), (0, 0, .ofNat 0)), 0, 0)]
set_option maxRecDepth 1000000 in
theorem cv1329 {gh : sxGh} (hg : sxGd sxKw gh) : sxCtV sxKw gh ct1329 := sxMeB_ok (cts := []) (cuts := cu1329) (sp := []) 168 (by decide +kernel) hg (by decide) (by decide) (fun _ h => absurd h List.not_mem_nil)
/-- LotBeliefs.Subsets.allFriends -/
def ct1357 : sxCt := (67, 0, (3, [(1, .ofNat 0, .ofNat 4095), (2, .ofNat 0, .ofNat 12)], [], [(0, .inl 45), (1, .inr (false, (1, .ofNat 0))), (2, .inr (false, (2, .ofNat 0)))], [], [], [], []), [], [
  (3, [(2, .ofNat 1, .ofNat 12)], [], [], [.inr (false, (0, .ofNat 0))], [], [], []), 
  (3, [], [], [], [.inr (false, (0, .ofNat 1))], [], [], [])], [], 0, 0)
def cu1357 : List sxCu := [
  (2, (4, [(1, .ofNat 0, .ofNat 4095), (2, .ofNat 0, .ofNat 12), (3, .ofNat 0, .ofNat 12)], [], [(0, .inl 45), (1, .inr (false, (1, .ofNat 0))), (2, .inr (false, (2, .ofNat 0))), (3, .inr (false, (3, .ofNat 0)))], [], [], [], []), ((0, 3, .ofNat 12), (0, 0, .ofNat 0), (0, 0, .ofNat 0)), 0, 0)]
set_option maxRecDepth 1000000 in
theorem cv1357 {gh : sxGh} (hg : sxGd sxKw gh) : sxCtV sxKw gh ct1357 := sxMeB_ok (cts := []) (cuts := cu1357) (sp := []) 88 (by decide +kernel) hg (by decide) (by decide) (fun _ h => absurd h List.not_mem_nil)
/-- LotBeliefs.Subsets.peaceful -/
def ct1358 : sxCt := (66, 1, (2, [(1, .ofNat 0, .ofNat 51)], [], [(0, .inl 45), (1, .inl 3), (2, .inr (false, (1, .ofNat 0)))], [], [], [], []), [(47, 0)], [
  (3, [(2, .ofNat 0, .ofNat 4095)], [], [], [.inr (false, (2, .ofNat 0))], [], [], [])], [], 0, 0)
def cu1358 : List sxCu := [
  (2, (3, [(1, .ofNat 0, .ofNat 51), (2, .ofNat 0, .ofNat 12)], [], [(0, .inl 45), (1, .inl 3), (2, .inr (false, (1, .ofNat 0))), (3, .inr (false, (2, .ofNat 0)))], [], [], [], []), ((0, 2, .ofNat 4108), (0, 0, .ofNat 13), (0, 0, .ofNat 0)), 0, 0), 
  (20, (5, [(1, .ofNat 0, .ofNat 51), (2, .ofNat 0, .ofNat 11), (3, .ofNat 0, .ofNat 12), (4, .ofNat 1, .ofNat 12)], [(2, 4, .negSucc 0)], [(0, .inl 45), (1, .inl 3), (2, .inr (false, (1, .ofNat 0))), (3, .inr (false, (2, .ofNat 0))), (4, .inr (false, (3, .ofNat 0)))], [], [(3, (0, .ofNat 2), .inr (false, (4, .ofNat 0))), (45, (0, .ofNat 3), .inl 47)], [], []), ((0, 2, .ofNat 4108), (0, 3, .ofNat 12), (0, 0, .ofNat 0)), 0, 0), 
  (73, (6, [(1, .ofNat 0, .ofNat 51), (2, .ofNat 0, .ofNat 4095), (3, .ofNat 0, .ofNat 63), (4, .ofNat 1, .ofNat 4096), (5, .ofNat 0, .ofNat 12)], [(2, 4, .negSucc 0)], [(0, .inl 45), (1, .inl 3), (2, .inr (false, (1, .ofNat 0))), (3, .inr (false, (2, .ofNat 0))), (4, .inr (false, (3, .ofNat 0))), (5, .inr (false, (4, .ofNat 0)))], [], [(3, (0, .ofNat 2), .inr (false, (5, .ofNat 0)))], [], []), ((0, 4, .ofNat 4096), (0, 0, .ofNat 0), (0, 0, .ofNat 0)), 0, 0)]
set_option maxRecDepth 1000000 in
theorem cv1358 {gh : sxGh} (hg : sxGd sxKw gh) : sxCtV sxKw gh ct1358 := sxMeB_ok (cts := [ct1357, ct460]) (cuts := cu1358) (sp := []) 178 (by decide +kernel) hg (by decide) (by decide) (List.forall_mem_cons.mpr ⟨cv1357 hg, (List.forall_mem_cons.mpr ⟨cv460 hg, (fun _ h => absurd h List.not_mem_nil)⟩)⟩)
/-- LotBeliefsModel.peace -/
def ct1359 : sxCt := (308, 2, (2, [(1, .ofNat 0, .ofNat 51)], [], [(0, .inl 78), (1, .inr (false, (1, .ofNat 0)))], [], [], [], []), [(78, 1)], [
  (3, [(2, .ofNat 0, .ofNat 4095)], [], [], [.inr (false, (2, .ofNat 0))], [(78, (0, .ofNat 0), .inr (false, (0, .ofNat 0)))], [], [])], [], 0, 0)
def cu1359 : List sxCu := [
  (32, (4, [(1, .ofNat 0, .ofNat 51), (2, .ofNat 0, .ofNat 4095), (3, .ofNat 0, .ofNat 4096)], [(2, 3, .ofNat 0)], [(0, .inl 78), (1, .inr (false, (1, .ofNat 0))), (2, .inr (false, (2, .ofNat 0))), (3, .inr (false, (3, .ofNat 0)))], [], [(78, (0, .ofNat 0), .inr (false, (0, .ofNat 0)))], [], []), ((0, 3, .ofNat 4096), (0, 0, .ofNat 13), (0, 0, .ofNat 0)), 0, 0), 
  (66, (7, [(1, .ofNat 0, .ofNat 51), (2, .ofNat 0, .ofNat 4095), (3, .ofNat 0, .ofNat 4095), (4, .ofNat 0, .ofNat 1), (5, .ofNat 0, .ofNat 12), (6, .ofNat 0, .ofNat 12)], [(2, 3, .ofNat 0), (5, 6, .ofNat 0)], [(0, .inl 78), (1, .inr (false, (1, .ofNat 0))), (2, .inr (false, (2, .ofNat 0))), (3, .inr (false, (3, .ofNat 0))), (4, .inr (false, (4, .ofNat 0))), (5, .inr (false, (5, .ofNat 0)))], [], [(78, (0, .ofNat 0), .inr (false, (0, .ofNat 0))), (78, (0, .ofNat 12), .inl 82), (82, (0, .ofNat 1), .inr (false, (6, .ofNat 0)))], [], []), ((0, 3, .ofNat 4096), (0, 5, .ofNat 12), (0, 0, .ofNat 13)), 0, 0), 
  (81, (8, [(1, .ofNat 0, .ofNat 51), (2, .ofNat 0, .ofNat 4095), (3, .ofNat 0, .ofNat 4095), (4, .ofNat 0, .ofNat 1), (5, .ofNat 0, .ofNat 11), (6, .ofNat 0, .ofNat 12), (7, .ofNat 1, .ofNat 12)], [(2, 3, .ofNat 0), (5, 6, .ofNat 0), (5, 7, .negSucc 0)], [(0, .inl 78), (1, .inr (false, (1, .ofNat 0))), (2, .inr (false, (2, .ofNat 0))), (3, .inr (false, (3, .ofNat 0))), (4, .inr (false, (4, .ofNat 0))), (5, .inr (false, (5, .ofNat 0))), (6, .inr (false, (6, .ofNat 0)))], [], [(78, (0, .ofNat 0), .inr (false, (0, .ofNat 0))), (78, (0, .ofNat 12), .inl 82), (82, (0, .ofNat 1), .inr (false, (7, .ofNat 0)))], [], []), ((0, 3, .ofNat 4096), (0, 5, .ofNat 12), (0, 6, .ofNat 12)), 0, 0)]
set_option maxRecDepth 1000000 in
theorem cv1359 {gh : sxGh} (hg : sxGd sxKw gh) : sxCtV sxKw gh ct1359 := sxMeB_ok (cts := [ct461]) (cuts := cu1359) (sp := []) 219 (by decide +kernel) hg (by decide) (by decide) (List.forall_mem_cons.mpr ⟨cv461 hg, (fun _ h => absurd h List.not_mem_nil)⟩)
/-- LotBeliefsModel.atomOf -/
def ct1362 : sxCt := (215, 0, (1, [], [], [(0, .inr (false, (0, .ofNat 5))), (1, .inr (false, (0, .ofNat 6)))], [], [], [], []), [], [
  (2, [(1, .negSucc 9223372036854775807, .ofNat 9223372036854775807)], [], [], [.inr (true, (1, .ofNat 0))], [], [], [])], [], 0, 0)
def cu1362 : List sxCu := []
set_option maxRecDepth 1000000 in
theorem cv1362 {gh : sxGh} (hg : sxGd sxKw gh) : sxCtV sxKw gh ct1362 := sxMeB_ok (cts := []) (cuts := cu1362) (sp := []) 1223 (by decide +kernel) hg (by decide) (by decide) (fun _ h => absurd h List.not_mem_nil)
/-- LotBeliefsModel.atomOf -/
def ct1363 : sxCt := (215, 0, (2, [(1, .ofNat 0, .ofNat 6)], [], [(0, .inr (false, (0, .ofNat 4))), (1, .inr (false, (1, .ofNat 0)))], [], [], [], []), [], [
  (3, [(2, .negSucc 9223372036854775807, .ofNat 9223372036854775807)], [], [], [.inr (true, (2, .ofNat 0))], [], [], [])], [], 0, 0)
def cu1363 : List sxCu := []
set_option maxRecDepth 1000000 in
theorem cv1363 {gh : sxGh} (hg : sxGd sxKw gh) : sxCtV sxKw gh ct1363 := sxMeB_ok (cts := []) (cuts := cu1363) (sp := []) 1349 (by decide +kernel) hg (by decide) (by decide) (fun _ h => absurd h List.not_mem_nil)
/-- LotBeliefsModel.atomOf -/
def ct1364 : sxCt := (215, 0, (2, [(1, .ofNat 0, .ofNat 6)], [], [(0, .inr (false, (0, .ofNat 3))), (1, .inr (false, (1, .ofNat 0)))], [], [], [], []), [], [
  (3, [(2, .negSucc 9223372036854775807, .ofNat 9223372036854775807)], [], [], [.inr (true, (2, .ofNat 0))], [], [], [])], [], 0, 0)
def cu1364 : List sxCu := []
set_option maxRecDepth 1000000 in
theorem cv1364 {gh : sxGh} (hg : sxGd sxKw gh) : sxCtV sxKw gh ct1364 := sxMeB_ok (cts := []) (cuts := cu1364) (sp := []) 1349 (by decide +kernel) hg (by decide) (by decide) (fun _ h => absurd h List.not_mem_nil)
/-- LotBeliefsModel.atomOf -/
def ct1365 : sxCt := (215, 0, (2, [(1, .ofNat 0, .ofNat 6)], [], [(0, .inr (false, (0, .ofNat 2))), (1, .inr (false, (1, .ofNat 0)))], [], [], [], []), [], [
  (3, [(2, .negSucc 9223372036854775807, .ofNat 9223372036854775807)], [], [], [.inr (true, (2, .ofNat 0))], [], [], [])], [], 0, 0)
def cu1365 : List sxCu := []
set_option maxRecDepth 1000000 in
theorem cv1365 {gh : sxGh} (hg : sxGd sxKw gh) : sxCtV sxKw gh ct1365 := sxMeB_ok (cts := []) (cuts := cu1365) (sp := []) 1349 (by decide +kernel) hg (by decide) (by decide) (fun _ h => absurd h List.not_mem_nil)
end SXC
