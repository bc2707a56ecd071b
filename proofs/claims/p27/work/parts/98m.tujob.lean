/-! jar's turn: jobs -/
section TUJOB
/-- LotBeliefs.Setting.begin -/
def ft252 : sxCt := (49, 0, (3, [(1, .ofNat 0, .ofNat 63), (2, .ofNat 0, .ofNat 4)], [], [(0, .inl 27), (1, .inl 11)], [], [(11, (0, .ofNat 5), .inr (false, (1, .ofNat 0))), (11, (0, .ofNat 6), .inr (false, (2, .ofNat 0)))], [], []), [(27, 2), (27, 3), (28, 0)], [
  (3, [], [], [], [], [(11, (0, .ofNat 5), .inr (false, (1, .ofNat 0))), (11, (0, .ofNat 6), .inr (false, (2, .ofNat 0))), (27, (0, .ofNat 1), .inr (false, (2, .ofNat 0))), (27, (0, .ofNat 2), .inr (false, (1, .ofNat 0)))], [], [])], [], 0, 0)
def fu252 : List sxCu := [
  (2, (4, [(1, .ofNat 0, .ofNat 63), (2, .ofNat 0, .ofNat 4), (3, .ofNat 0, .ofNat 12)], [], [(0, .inl 27), (1, .inl 11), (2, .inr (false, (3, .ofNat 0)))], [], [(11, (0, .ofNat 5), .inr (false, (1, .ofNat 0))), (11, (0, .ofNat 6), .inr (false, (2, .ofNat 0)))], [], []), ((0, 3, .ofNat 12), (0, 0, .ofNat 0), (0, 0, .ofNat 0)), 0, 0)]
set_option maxRecDepth 1000000 in
theorem fv252 {gh : sxGh} (hg : sxGd sxKw gh) : sxCtV sxKw gh ft252 := sxMeB_ok (cts := []) (cuts := fu252) (sp := []) 83 (by decide +kernel) hg (by decide) (by decide) (fun _ h => absurd h List.not_mem_nil)
/-- LotBeliefs.forgetSurveys -/
def ft253 : sxCt := (191, 0, (1, [], [], [(0, .inl 0)], [], [], [], []), [(58, 2), (62, 2), (66, 2), (70, 2), (74, 2)], [
  (1, [], [], [], [], [], [], [])], [], 0, 0)
def fu253 : List sxCu := [
  (2, (2, [(1, .ofNat 0, .ofNat 5)], [], [(0, .inl 0), (1, .inr (false, (1, .ofNat 0)))], [], [], [], []), ((0, 1, .ofNat 5), (0, 0, .ofNat 0), (0, 0, .ofNat 0)), 0, 0)]
set_option maxRecDepth 1000000 in
theorem fv253 {gh : sxGh} (hg : sxGd sxKw gh) : sxCtV sxKw gh ft253 := sxMeB_ok (cts := []) (cuts := fu253) (sp := []) 92 (by decide +kernel) hg (by decide) (by decide) (fun _ h => absurd h List.not_mem_nil)
def rdCs : List (pxCt × Nat) := [(pt0, 11), (pt1, 11), (pt2, 11), (pt3, 11), (pt4, 11), (pt26, 11)]
abbrev ctJarM : sxCt := ct2176
abbrev ctJarM0 : sxCt := ct2177
abbrev rdNeed : Nat := 29
def rdMR : sxMo := [(78, 1), (78, 2), (78, 3), (78, 4), (78, 5), (78, 6), (78, 7), (78, 8), (78, 9), (78, 21), (78, 23), (78, 26), (579, 3), (579, 4), (579, 5), (579, 25), (579, 26), (579, 27), (579, 28), (579, 33), (579, 34), (579, 35), (579, 36), (579, 40), (579, 41), (81000090, 0)]
def tuMI : sxMo := [(0, 2), (0, 3), (0, 4), (0, 7), (0, 10), (1, 2), (1, 3), (1, 4), (1, 5), (1, 6), (1, 7), (1, 8), (1, 9), (1, 10), (11, 1), (11, 2), (11, 3), (11, 4), (11, 5), (11, 6), (11, 7), (19, 1), (19, 3), (23, 1), (23, 3), (27, 2), (27, 3), (28, 0), (58, 2), (62, 2), (66, 2), (70, 2), (74, 2), (78, 1), (78, 2), (78, 3), (78, 4), (78, 5), (78, 6), (78, 7), (78, 8), (78, 9), (78, 21), (78, 23), (78, 26), (578, 0), (579, 3), (579, 4), (579, 5), (579, 25), (579, 26), (579, 27), (579, 28), (579, 29), (579, 30), (579, 31), (579, 32), (579, 33), (579, 34), (579, 35), (579, 36), (579, 40), (579, 41), (579, 45), (579, 46), (579, 47), (12000018, 0), (81000090, 0)]
abbrev tuNI : Nat := 40
set_option maxRecDepth 1000000 in
theorem tuJlo {J : Nat} (hJ : J = 3 ∨ J = 11) : sxGo1 (tuJ J [] []) (some tuMe) 151 (sxSt mjLaw 361 (tuDlo J) 0 0) = true := by rcases hJ with rfl | rfl <;> decide +kernel
set_option maxRecDepth 1000000 in
theorem tuJhi {J : Nat} (hJ : J = 3 ∨ J = 11) : sxGo1 (tuJ J [] []) (some tuMe) 159 (sxSt mjLaw 361 (tuDhi J) 0 0) = true := by rcases hJ with rfl | rfl <;> decide +kernel
end TUJOB
