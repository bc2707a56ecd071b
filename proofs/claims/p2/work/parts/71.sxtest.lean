section SXT
def tBlanks (k : Nat) : sxCt := (k, 1, (2, [(1, 0, 600)], [], [(0, .inl 78)], [], [(78, (0, 4), .inr (false, (1, 0)))], []), [(78, 5)], [(3, [(1, 0, 600), (2, 0, 600)], [(1, 2, 0)], [], [], [(78, (0, 4), .inr (false, (2, 0)))], [])], [], 0, 0)
def tBlC : List sxCu := [(0, (3, [(1, 0, 600), (2, 0, 600)], [(1, 2, 0)], [(0, .inl 78)], [], [(78, (0, 4), .inr (false, (2, 0)))], []), ((0, 2, 600), (0, 0, 0), (0, 0, 0)), 0, 0)]
set_option maxRecDepth 1000000 in
theorem tBl : sxMeB (sxJob sxKw [] (tBlanks 200) tBlC []) (tBlanks 200).2.2.1 200 = true := by decide +kernel
end SXT
