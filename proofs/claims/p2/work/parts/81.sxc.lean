/-! SX: contracts, by program -/
section SXC
/-- LotBeliefsModel.wordHere -/
def ct3 : sxCt := (205, 2, (3, [(1, .ofNat 0, .ofNat 600), (2, .ofNat 0, .ofNat 600)], [], [(0, .inl 78)], [], [(78, (0, .ofNat 2), .inr (false, (1, .ofNat 0))), (78, (0, .ofNat 4), .inr (false, (2, .ofNat 0)))], []), [(78, 5)], [
  (4, [(1, .ofNat 0, .ofNat 600), (2, .ofNat 0, .ofNat 600), (3, .ofNat 0, .ofNat 600)], [(2, 3, .ofNat 0)], [], [.inr (false, (0, .ofNat 0))], [(78, (0, .ofNat 2), .inr (false, (1, .ofNat 0))), (78, (0, .ofNat 4), .inr (false, (3, .ofNat 0)))], []), 
  (6, [(1, .ofNat 1, .ofNat 600), (2, .ofNat 0, .ofNat 599), (3, .ofNat 1, .ofNat 387420488), (4, .ofNat 0, .ofNat 599), (5, .ofNat 97, .ofNat 122)], [(2, 4, .ofNat 0), (4, 1, .negSucc 0), (5, 3, .ofNat 96)], [], [.inr (false, (3, .ofNat 0))], [(78, (0, .ofNat 2), .inr (false, (1, .ofNat 0))), (78, (0, .ofNat 4), .inr (false, (4, .ofNat 0))), (79, (4, .ofNat 0), .inr (false, (5, .ofNat 0)))], []), 
  (5, [(1, .ofNat 7, .ofNat 600), (2, .ofNat 0, .ofNat 593), (3, .ofNat 0, .ofNat 593), (4, .ofNat 97, .ofNat 122)], [(2, 3, .ofNat 0), (3, 1, .negSucc 6)], [], [.inr (false, (0, .negSucc 0))], [(78, (0, .ofNat 2), .inr (false, (1, .ofNat 0))), (78, (0, .ofNat 4), .inr (false, (3, .ofNat 0))), (79, (3, .ofNat 0), .inr (false, (4, .ofNat 0)))], [])], [], 0, 0)
def cu3 : List sxCu := [
  (53, (7, [(1, .ofNat 7, .ofNat 600), (2, .ofNat 0, .ofNat 593), (3, .ofNat 14900788, .ofNat 387420488), (4, .ofNat 6, .ofNat 600), (5, .ofNat 0, .ofNat 593), (6, .ofNat 97, .ofNat 122)], [(2, 5, .ofNat 0), (5, 1, .negSucc 6)], [(0, .inl 78), (1, .inr (false, (3, .ofNat 0))), (2, .inr (false, (4, .ofNat 0)))], [], [(78, (0, .ofNat 2), .inr (false, (1, .ofNat 0))), (78, (0, .ofNat 4), .inr (false, (5, .ofNat 0))), (78, (0, .ofNat 9), .inl 79), (79, (5, .ofNat 0), .inr (false, (6, .ofNat 0)))], []), ((0, 4, .ofNat 600), (0, 0, .ofNat 0), (0, 0, .ofNat 0)), 0, 0)]
set_option maxRecDepth 1000000 in
theorem cv3 {gh : sxGh} (hg : sxGd sxKw gh) : sxCtV sxKw gh ct3 := sxMeB_ok (cts := [ct1]) (cuts := cu3) (sp := []) 20329 (by decide +kernel) hg (by decide) (by decide) (List.forall_mem_cons.mpr ⟨cv1 hg, (fun _ h => absurd h List.not_mem_nil)⟩)

end SXC
