/-! texts read alike: contracts by program -/
section FX_u03
/-- LotBeliefsModel.atomOf -/
def ft146 : sxCt := (216, 0, (4, [(1, .ofNat 0, .ofNat 5), (2, .ofNat 1, .ofNat 6), (3, .negSucc 9223372036854775807, .ofNat 9223372036854775807)], [], [(0, .inr (false, (1, .ofNat 0))), (1, .inr (false, (2, .ofNat 0)))], [], [], [], [(53, (1, .ofNat 0), (2, .ofNat 0), (3, .ofNat 0))]), [], [
  (4, [(3, .negSucc 6148914691236517205, .ofNat 4294901760)], [], [], [.inr (true, (3, .ofNat 0))], [], [], [])], [], 0, 0)
def fu146 : List sxCu := []
set_option maxRecDepth 1000000 in
theorem fv146 {gh : sxGh} (hg : sxGd sxKw gh) : sxCtV sxKw gh ft146 := sxMeB_ok (cts := []) (cuts := fu146) (sp := [(0, 581, 0), (1, 581, 1), (33, 579, 7)]) 13999 (by decide +kernel) hg (by decide) (by decide) (fun _ h => absurd h List.not_mem_nil)
end FX_u03
