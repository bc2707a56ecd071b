/-! SX: contracts, by program -/
section SXC
/-- LotBeliefs.Course.stands -/
def ct1367 : sxCt := (7, 3, (4, [(1, .ofNat 0, .ofNat 16), (2, .ofNat 0, .ofNat 16), (3, .ofNat 0, .ofNat 17)], [], [(0, .inl 32), (1, .inr (false, (1, .ofNat 0))), (2, .inr (false, (2, .ofNat 0)))], [], [(32, (0, .ofNat 10), .inr (false, (3, .ofNat 0)))], []), [(21, 0), (22, 0), (25, 0), (26, 0), (32, 11), (32, 12), (34000037, 0)], [
  (5, [(1, .ofNat 0, .ofNat 16), (2, .ofNat 0, .ofNat 16), (3, .ofNat 0, .ofNat 17), (4, .negSucc 2147483647, .ofNat 2147483647)], [], [], [.inr (false, (0, .ofNat 1))], [(32, (0, .ofNat 10), .inr (false, (3, .ofNat 0))), (32, (0, .ofNat 11), .inr (false, (4, .ofNat 0)))], []), 
  (7, [(1, .ofNat 0, .ofNat 16), (2, .ofNat 0, .ofNat 16), (3, .ofNat 1, .ofNat 17), (4, .ofNat 0, .ofNat 1), (5, .ofNat 0, .ofNat 17), (6, .negSucc 2147483647, .ofNat 2147483647)], [(5, 3, .ofNat 0)], [], [.inr (false, (4, .ofNat 0))], [(32, (0, .ofNat 10), .inr (false, (5, .ofNat 0))), (32, (0, .ofNat 11), .inr (false, (6, .ofNat 0)))], [])], [], 0, 0)
def cu1367 : List sxCu := [
  (38, (6, [(1, .ofNat 0, .ofNat 16), (2, .ofNat 0, .ofNat 16), (3, .ofNat 0, .ofNat 17), (4, .negSucc 2147483647, .ofNat 2147483647), (5, .negSucc 2147483647, .ofNat 2147483647)], [], [(0, .inl 32), (1, .inr (false, (1, .ofNat 0))), (2, .inr (false, (2, .ofNat 0))), (3, .inr (false, (4, .ofNat 0))), (4, .inr (false, (3, .ofNat 0))), (5, .inr (false, (0, .ofNat 0))), (6, .inr (false, (0, .ofNat 1))), (7, .inr (false, (0, .ofNat 0)))], [], [(32, (0, .ofNat 10), .inr (false, (3, .ofNat 0))), (32, (0, .ofNat 11), .inr (false, (5, .ofNat 0)))], []), ((0, 0, .ofNat 17), (0, 0, .ofNat 0), (0, 0, .ofNat 0)), 0, 0), 
  (38, (5, [(1, .ofNat 0, .ofNat 16), (2, .ofNat 0, .ofNat 16), (3, .ofNat 0, .ofNat 17), (4, .negSucc 2147483647, .ofNat 2147483647)], [], [(0, .inl 32), (1, .inr (false, (1, .ofNat 0))), (2, .inr (false, (2, .ofNat 0))), (3, .inr (false, (0, .ofNat 0))), (4, .inr (false, (0, .ofNat 0))), (5, .inr (false, (0, .ofNat 0))), (6, .inr (false, (0, .ofNat 1))), (7, .inr (false, (0, .ofNat 0)))], [], [(32, (0, .ofNat 10), .inr (false, (3, .ofNat 0))), (32, (0, .ofNat 11), .inr (false, (4, .ofNat 0)))], []), ((0, 0, .ofNat 17), (0, 0, .ofNat 0), (0, 0, .ofNat 0)), 0, 0), 
  (38, (11, [(1, .ofNat 0, .ofNat 16), (2, .ofNat 0, .ofNat 16), (3, .ofNat 1, .ofNat 17), (4, .negSucc 2147483647, .ofNat 2147483647), (5, .ofNat 0, .ofNat 1), (6, .ofNat 0, .ofNat 1), (7, .ofNat 0, .ofNat 16), (8, .negSucc 0, .ofNat 2147480647), (9, .ofNat 0, .ofNat 17), (10, .negSucc 2147483647, .ofNat 2147483647)], [(3, 9, .ofNat 1), (9, 3, .ofNat 0)], [(0, .inl 32), (1, .inr (false, (1, .ofNat 0))), (2, .inr (false, (2, .ofNat 0))), (3, .inr (false, (4, .ofNat 0))), (4, .inr (false, (3, .ofNat 0))), (5, .inr (false, (5, .ofNat 0))), (6, .inr (false, (6, .ofNat 0))), (7, .inr (false, (0, .ofNat 1))), (8, .inr (false, (7, .ofNat 0))), (9, .inr (false, (8, .ofNat 0)))], [], [(32, (0, .ofNat 9), .inl 37), (32, (0, .ofNat 10), .inr (false, (9, .ofNat 0))), (32, (0, .ofNat 11), .inr (false, (10, .ofNat 0))), (37, (0, .ofNat 0), .inr (false, (7, .ofNat 0)))], []), ((0, 0, .ofNat 16), (0, 0, .ofNat 0), (0, 0, .ofNat 0)), 0, 0), 
  (38, (11, [(1, .ofNat 0, .ofNat 16), (2, .ofNat 0, .ofNat 16), (3, .ofNat 10, .ofNat 17), (4, .negSucc 2147483647, .ofNat 2147483647), (5, .ofNat 0, .ofNat 10), (6, .ofNat 0, .ofNat 1), (7, .ofNat 0, .ofNat 16), (8, .negSucc 0, .ofNat 2147480647), (9, .ofNat 0, .ofNat 17), (10, .negSucc 2147483647, .ofNat 2147483647)], [(3, 9, .ofNat 10), (9, 3, .ofNat 0)], [(0, .inl 32), (1, .inr (false, (1, .ofNat 0))), (2, .inr (false, (2, .ofNat 0))), (3, .inr (false, (4, .ofNat 0))), (4, .inr (false, (3, .ofNat 0))), (5, .inr (false, (5, .ofNat 0))), (6, .inr (false, (6, .ofNat 0))), (7, .inr (false, (0, .ofNat 10))), (8, .inr (false, (7, .ofNat 0))), (9, .inr (false, (8, .ofNat 0)))], [], [(32, (0, .ofNat 9), .inl 37), (32, (0, .ofNat 10), .inr (false, (9, .ofNat 0))), (32, (0, .ofNat 11), .inr (false, (10, .ofNat 0)))], []), ((0, 0, .ofNat 7), (0, 0, .ofNat 0), (0, 0, .ofNat 0)), 0, 0), 
  (38, (11, [(1, .ofNat 0, .ofNat 16), (2, .ofNat 0, .ofNat 16), (3, .ofNat 11, .ofNat 17), (4, .negSucc 2147483647, .ofNat 2147483647), (5, .ofNat 0, .ofNat 11), (6, .ofNat 0, .ofNat 1), (7, .ofNat 0, .ofNat 16), (8, .negSucc 0, .ofNat 2147480647), (9, .ofNat 0, .ofNat 17), (10, .negSucc 2147483647, .ofNat 2147483647)], [(3, 9, .ofNat 11), (9, 3, .ofNat 0)], [(0, .inl 32), (1, .inr (false, (1, .ofNat 0))), (2, .inr (false, (2, .ofNat 0))), (3, .inr (false, (4, .ofNat 0))), (4, .inr (false, (3, .ofNat 0))), (5, .inr (false, (5, .ofNat 0))), (6, .inr (false, (6, .ofNat 0))), (7, .inr (false, (0, .ofNat 11))), (8, .inr (false, (7, .ofNat 0))), (9, .inr (false, (8, .ofNat 0)))], [], [(32, (0, .ofNat 9), .inl 37), (32, (0, .ofNat 10), .inr (false, (9, .ofNat 0))), (32, (0, .ofNat 11), .inr (false, (10, .ofNat 0)))], []), ((0, 0, .ofNat 6), (0, 0, .ofNat 0), (0, 0, .ofNat 0)), 0, 0), 
  (38, (11, [(1, .ofNat 0, .ofNat 16), (2, .ofNat 0, .ofNat 16), (3, .ofNat 12, .ofNat 17), (4, .negSucc 2147483647, .ofNat 2147483647), (5, .ofNat 0, .ofNat 12), (6, .ofNat 0, .ofNat 1), (7, .ofNat 0, .ofNat 16), (8, .negSucc 0, .ofNat 2147480647), (9, .ofNat 0, .ofNat 17), (10, .negSucc 2147483647, .ofNat 2147483647)], [(3, 9, .ofNat 12), (9, 3, .ofNat 0)], [(0, .inl 32), (1, .inr (false, (1, .ofNat 0))), (2, .inr (false, (2, .ofNat 0))), (3, .inr (false, (4, .ofNat 0))), (4, .inr (false, (3, .ofNat 0))), (5, .inr (false, (5, .ofNat 0))), (6, .inr (false, (6, .ofNat 0))), (7, .inr (false, (0, .ofNat 12))), (8, .inr (false, (7, .ofNat 0))), (9, .inr (false, (8, .ofNat 0)))], [], [(32, (0, .ofNat 9), .inl 37), (32, (0, .ofNat 10), .inr (false, (9, .ofNat 0))), (32, (0, .ofNat 11), .inr (false, (10, .ofNat 0)))], []), ((0, 0, .ofNat 5), (0, 0, .ofNat 0), (0, 0, .ofNat 0)), 0, 0), 
  (38, (11, [(1, .ofNat 0, .ofNat 16), (2, .ofNat 0, .ofNat 16), (3, .ofNat 13, .ofNat 17), (4, .negSucc 2147483647, .ofNat 2147483647), (5, .ofNat 0, .ofNat 13), (6, .ofNat 0, .ofNat 1), (7, .ofNat 0, .ofNat 16), (8, .negSucc 0, .ofNat 2147480647), (9, .ofNat 0, .ofNat 17), (10, .negSucc 2147483647, .ofNat 2147483647)], [(3, 9, .ofNat 13), (9, 3, .ofNat 0)], [(0, .inl 32), (1, .inr (false, (1, .ofNat 0))), (2, .inr (false, (2, .ofNat 0))), (3, .inr (false, (4, .ofNat 0))), (4, .inr (false, (3, .ofNat 0))), (5, .inr (false, (5, .ofNat 0))), (6, .inr (false, (6, .ofNat 0))), (7, .inr (false, (0, .ofNat 13))), (8, .inr (false, (7, .ofNat 0))), (9, .inr (false, (8, .ofNat 0)))], [], [(32, (0, .ofNat 9), .inl 37), (32, (0, .ofNat 10), .inr (false, (9, .ofNat 0))), (32, (0, .ofNat 11), .inr (false, (10, .ofNat 0)))], []), ((0, 0, .ofNat 4), (0, 0, .ofNat 0), (0, 0, .ofNat 0)), 0, 0), 
  (38, (11, [(1, .ofNat 0, .ofNat 16), (2, .ofNat 0, .ofNat 16), (3, .ofNat 14, .ofNat 17), (4, .negSucc 2147483647, .ofNat 2147483647), (5, .ofNat 0, .ofNat 14), (6, .ofNat 0, .ofNat 1), (7, .ofNat 0, .ofNat 16), (8, .negSucc 0, .ofNat 2147480647), (9, .ofNat 0, .ofNat 17), (10, .negSucc 2147483647, .ofNat 2147483647)], [(3, 9, .ofNat 14), (9, 3, .ofNat 0)], [(0, .inl 32), (1, .inr (false, (1, .ofNat 0))), (2, .inr (false, (2, .ofNat 0))), (3, .inr (false, (4, .ofNat 0))), (4, .inr (false, (3, .ofNat 0))), (5, .inr (false, (5, .ofNat 0))), (6, .inr (false, (6, .ofNat 0))), (7, .inr (false, (0, .ofNat 14))), (8, .inr (false, (7, .ofNat 0))), (9, .inr (false, (8, .ofNat 0)))], [], [(32, (0, .ofNat 9), .inl 37), (32, (0, .ofNat 10), .inr (false, (9, .ofNat 0))), (32, (0, .ofNat 11), .inr (false, (10, .ofNat 0)))], []), ((0, 0, .ofNat 3), (0, 0, .ofNat 0), (0, 0, .ofNat 0)), 0, 0), 
  (38, (11, [(1, .ofNat 0, .ofNat 16), (2, .ofNat 0, .ofNat 16), (3, .ofNat 15, .ofNat 17), (4, .negSucc 2147483647, .ofNat 2147483647), (5, .ofNat 0, .ofNat 15), (6, .ofNat 0, .ofNat 1), (7, .ofNat 0, .ofNat 16), (8, .negSucc 0, .ofNat 2147480647), (9, .ofNat 0, .ofNat 17), (10, .negSucc 2147483647, .ofNat 2147483647)], [(3, 9, .ofNat 15), (9, 3, .ofNat 0)], [(0, .inl 32), (1, .inr (false, (1, .ofNat 0))), (2, .inr (false, (2, .ofNat 0))), (3, .inr (false, (4, .ofNat 0))), (4, .inr (false, (3, .ofNat 0))), (5, .inr (false, (5, .ofNat 0))), (6, .inr (false, (6, .ofNat 0))), (7, .inr (false, (0, .ofNat 15))), (8, .inr (false, (7, .ofNat 0))), (9, .inr (false, (8, .ofNat 0)))], [], [(32, (0, .ofNat 9), .inl 37), (32, (0, .ofNat 10), .inr (false, (9, .ofNat 0))), (32, (0, .ofNat 11), .inr (false, (10, .ofNat 0)))], []), ((0, 0, .ofNat 2), (0, 0, .ofNat 0), (0, 0, .ofNat 0)), 0, 0), 
  (38, (11, [(1, .ofNat 0, .ofNat 16), (2, .ofNat 0, .ofNat 16), (3, .ofNat 16, .ofNat 17), (4, .negSucc 2147483647, .ofNat 2147483647), (5, .ofNat 0, .ofNat 16), (6, .ofNat 0, .ofNat 1), (7, .ofNat 0, .ofNat 16), (8, .negSucc 0, .ofNat 2147480647), (9, .ofNat 0, .ofNat 17), (10, .negSucc 2147483647, .ofNat 2147483647)], [(3, 9, .ofNat 16), (9, 3, .ofNat 0)], [(0, .inl 32), (1, .inr (false, (1, .ofNat 0))), (2, .inr (false, (2, .ofNat 0))), (3, .inr (false, (4, .ofNat 0))), (4, .inr (false, (3, .ofNat 0))), (5, .inr (false, (5, .ofNat 0))), (6, .inr (false, (6, .ofNat 0))), (7, .inr (false, (0, .ofNat 16))), (8, .inr (false, (7, .ofNat 0))), (9, .inr (false, (8, .ofNat 0)))], [], [(32, (0, .ofNat 9), .inl 37), (32, (0, .ofNat 10), .inr (false, (9, .ofNat 0))), (32, (0, .ofNat 11), .inr (false, (10, .ofNat 0)))], []), ((0, 0, .ofNat 1), (0, 0, .ofNat 0), (0, 0, .ofNat 0)), 0, 0), 
  (38, (11, [(1, .ofNat 0, .ofNat 16), (2, .ofNat 0, .ofNat 16), (3, .ofNat 17, .ofNat 17), (4, .negSucc 2147483647, .ofNat 2147483647), (5, .ofNat 0, .ofNat 17), (6, .ofNat 0, .ofNat 1), (7, .ofNat 0, .ofNat 16), (8, .negSucc 0, .ofNat 2147480647), (9, .ofNat 0, .ofNat 17), (10, .negSucc 2147483647, .ofNat 2147483647)], [], [(0, .inl 32), (1, .inr (false, (1, .ofNat 0))), (2, .inr (false, (2, .ofNat 0))), (3, .inr (false, (4, .ofNat 0))), (4, .inr (false, (3, .ofNat 0))), (5, .inr (false, (5, .ofNat 0))), (6, .inr (false, (6, .ofNat 0))), (7, .inr (false, (0, .ofNat 17))), (8, .inr (false, (7, .ofNat 0))), (9, .inr (false, (8, .ofNat 0)))], [], [(32, (0, .ofNat 9), .inl 37), (32, (0, .ofNat 10), .inr (false, (9, .ofNat 0))), (32, (0, .ofNat 11), .inr (false, (10, .ofNat 0)))], []), ((0, 0, .ofNat 0), (0, 0, .ofNat 0), (0, 0, .ofNat 0)), 0, 0), 
  (38, (11, [(1, .ofNat 0, .ofNat 16), (2, .ofNat 0, .ofNat 16), (3, .ofNat 2, .ofNat 17), (4, .negSucc 2147483647, .ofNat 2147483647), (5, .ofNat 0, .ofNat 2), (6, .ofNat 0, .ofNat 1), (7, .ofNat 0, .ofNat 16), (8, .negSucc 0, .ofNat 2147480647), (9, .ofNat 0, .ofNat 17), (10, .negSucc 2147483647, .ofNat 2147483647)], [(3, 9, .ofNat 2), (9, 3, .ofNat 0)], [(0, .inl 32), (1, .inr (false, (1, .ofNat 0))), (2, .inr (false, (2, .ofNat 0))), (3, .inr (false, (4, .ofNat 0))), (4, .inr (false, (3, .ofNat 0))), (5, .inr (false, (5, .ofNat 0))), (6, .inr (false, (6, .ofNat 0))), (7, .inr (false, (0, .ofNat 2))), (8, .inr (false, (7, .ofNat 0))), (9, .inr (false, (8, .ofNat 0)))], [], [(32, (0, .ofNat 9), .inl 37), (32, (0, .ofNat 10), .inr (false, (9, .ofNat 0))), (32, (0, .ofNat 11), .inr (false, (10, .ofNat 0)))], []), ((0, 0, .ofNat 15), (0, 0, .ofNat 0), (0, 0, .ofNat 0)), 0, 0), 
  (38, (11, [(1, .ofNat 0, .ofNat 16), (2, .ofNat 0, .ofNat 16), (3, .ofNat 3, .ofNat 17), (4, .negSucc 2147483647, .ofNat 2147483647), (5, .ofNat 0, .ofNat 3), (6, .ofNat 0, .ofNat 1), (7, .ofNat 0, .ofNat 16), (8, .negSucc 0, .ofNat 2147480647), (9, .ofNat 0, .ofNat 17), (10, .negSucc 2147483647, .ofNat 2147483647)], [(3, 9, .ofNat 3), (9, 3, .ofNat 0)], [(0, .inl 32), (1, .inr (false, (1, .ofNat 0))), (2, .inr (false, (2, .ofNat 0))), (3, .inr (false, (4, .ofNat 0))), (4, .inr (false, (3, .ofNat 0))), (5, .inr (false, (5, .ofNat 0))), (6, .inr (false, (6, .ofNat 0))), (7, .inr (false, (0, .ofNat 3))), (8, .inr (false, (7, .ofNat 0))), (9, .inr (false, (8, .ofNat 0)))], [], [(32, (0, .ofNat 9), .inl 37), (32, (0, .ofNat 10), .inr (false, (9, .ofNat 0))), (32, (0, .ofNat 11), .inr (false, (10, .ofNat 0)))], []), ((0, 0, .ofNat 14), (0, 0, .ofNat 0), (0, 0, .ofNat 0)), 0, 0), 
  (38, (11, [(1, .ofNat 0, .ofNat 16), (2, .ofNat 0, .ofNat 16), (3, .ofNat 4, .ofNat 17), (4, .negSucc 2147483647, .ofNat 2147483647), (5, .ofNat 0, .ofNat 4), (6, .ofNat 0, .ofNat 1), (7, .ofNat 0, .ofNat 16), (8, .negSucc 0, .ofNat 2147480647), (9, .ofNat 0, .ofNat 17), (10, .negSucc 2147483647, .ofNat 2147483647)], [(3, 9, .ofNat 4), (9, 3, .ofNat 0)], [(0, .inl 32), (1, .inr (false, (1, .ofNat 0))), (2, .inr (false, (2, .ofNat 0))), (3, .inr (false, (4, .ofNat 0))), (4, .inr (false, (3, .ofNat 0))), (5, .inr (false, (5, .ofNat 0))), (6, .inr (false, (6, .ofNat 0))), (7, .inr (false, (0, .ofNat 4))), (8, .inr (false, (7, .ofNat 0))), (9, .inr (false, (8, .ofNat 0)))], [], [(32, (0, .ofNat 9), .inl 37), (32, (0, .ofNat 10), .inr (false, (9, .ofNat 0))), (32, (0, .ofNat 11), .inr (false, (10, .ofNat 0)))], []), ((0, 0, .ofNat 13), (0, 0, .ofNat 0), (0, 0, .ofNat 0)), 0, 0), 
  (38, (11, [(1, .ofNat 0, .ofNat 16), (2, .ofNat 0, .ofNat 16), (3, .ofNat 5, .ofNat 17), (4, .negSucc 2147483647, .ofNat 2147483647), (5, .ofNat 0, .ofNat 5), (6, .ofNat 0, .ofNat 1), (7, .ofNat 0, .ofNat 16), (8, .negSucc 0, .ofNat 2147480647), (9, .ofNat 0, .ofNat 17), (10, .negSucc 2147483647, .ofNat 2147483647)], [(3, 9, .ofNat 5), (9, 3, .ofNat 0)], [(0, .inl 32), (1, .inr (false, (1, .ofNat 0))), (2, .inr (false, (2, .ofNat 0))), (3, .inr (false, (4, .ofNat 0))), (4, .inr (false, (3, .ofNat 0))), (5, .inr (false, (5, .ofNat 0))), (6, .inr (false, (6, .ofNat 0))), (7, .inr (false, (0, .ofNat 5))), (8, .inr (false, (7, .ofNat 0))), (9, .inr (false, (8, .ofNat 0)))], [], [(32, (0, .ofNat 9), .inl 37), (32, (0, .ofNat 10), .inr (false, (9, .ofNat 0))), (32, (0, .ofNat 11), .inr (false, (10, .ofNat 0)))], []), ((0, 0, .ofNat 12), (0, 0, .ofNat 0), (0, 0, .ofNat 0)), 0, 0), 
  (38, (11, [(1, .ofNat 0, .ofNat 16), (2, .ofNat 0, .ofNat 16), (3, .ofNat 6, .ofNat 17), (4, .negSucc 2147483647, .ofNat 2147483647), (5, .ofNat 0, .ofNat 6), (6, .ofNat 0, .ofNat 1), (7, .ofNat 0, .ofNat 16), (8, .negSucc 0, .ofNat 2147480647), (9, .ofNat 0, .ofNat 17), (10, .negSucc 2147483647, .ofNat 2147483647)], [(3, 9, .ofNat 6), (9, 3, .ofNat 0)], [(0, .inl 32), (1, .inr (false, (1, .ofNat 0))), (2, .inr (false, (2, .ofNat 0))), (3, .inr (false, (4, .ofNat 0))), (4, .inr (false, (3, .ofNat 0))), (5, .inr (false, (5, .ofNat 0))), (6, .inr (false, (6, .ofNat 0))), (7, .inr (false, (0, .ofNat 6))), (8, .inr (false, (7, .ofNat 0))), (9, .inr (false, (8, .ofNat 0)))], [], [(32, (0, .ofNat 9), .inl 37), (32, (0, .ofNat 10), .inr (false, (9, .ofNat 0))), (32, (0, .ofNat 11), .inr (false, (10, .ofNat 0)))], []), ((0, 0, .ofNat 11), (0, 0, .ofNat 0), (0, 0, .ofNat 0)), 0, 0), 
  (38, (11, [(1, .ofNat 0, .ofNat 16), (2, .ofNat 0, .ofNat 16), (3, .ofNat 7, .ofNat 17), (4, .negSucc 2147483647, .ofNat 2147483647), (5, .ofNat 0, .ofNat 7), (6, .ofNat 0, .ofNat 1), (7, .ofNat 0, .ofNat 16), (8, .negSucc 0, .ofNat 2147480647), (9, .ofNat 0, .ofNat 17), (10, .negSucc 2147483647, .ofNat 2147483647)], [(3, 9, .ofNat 7), (9, 3, .ofNat 0)], [(0, .inl 32), (1, .inr (false, (1, .ofNat 0))), (2, .inr (false, (2, .ofNat 0))), (3, .inr (false, (4, .ofNat 0))), (4, .inr (false, (3, .ofNat 0))), (5, .inr (false, (5, .ofNat 0))), (6, .inr (false, (6, .ofNat 0))), (7, .inr (false, (0, .ofNat 7))), (8, .inr (false, (7, .ofNat 0))), (9, .inr (false, (8, .ofNat 0)))], [], [(32, (0, .ofNat 9), .inl 37), (32, (0, .ofNat 10), .inr (false, (9, .ofNat 0))), (32, (0, .ofNat 11), .inr (false, (10, .ofNat 0)))], []), ((0, 0, .ofNat 10), (0, 0, .ofNat 0), (0, 0, .ofNat 0)), 0, 0), 
  (38, (11, [(1, .ofNat 0, .ofNat 16), (2, .ofNat 0, .ofNat 16), (3, .ofNat 8, .ofNat 17), (4, .negSucc 2147483647, .ofNat 2147483647), (5, .ofNat 0, .ofNat 8), (6, .ofNat 0, .ofNat 1), (7, .ofNat 0, .ofNat 16), (8, .negSucc 0, .ofNat 2147480647), (9, .ofNat 0, .ofNat 17), (10, .negSucc 2147483647, .ofNat 2147483647)], [(3, 9, .ofNat 8), (9, 3, .ofNat 0)], [(0, .inl 32), (1, .inr (false, (1, .ofNat 0))), (2, .inr (false, (2, .ofNat 0))), (3, .inr (false, (4, .ofNat 0))), (4, .inr (false, (3, .ofNat 0))), (5, .inr (false, (5, .ofNat 0))), (6, .inr (false, (6, .ofNat 0))), (7, .inr (false, (0, .ofNat 8))), (8, .inr (false, (7, .ofNat 0))), (9, .inr (false, (8, .ofNat 0)))], [], [(32, (0, .ofNat 9), .inl 37), (32, (0, .ofNat 10), .inr (false, (9, .ofNat 0))), (32, (0, .ofNat 11), .inr (false, (10, .ofNat 0)))], []), ((0, 0, .ofNat 9), (0, 0, .ofNat 0), (0, 0, .ofNat 0)), 0, 0), 
  (38, (11, [(1, .ofNat 0, .ofNat 16), (2, .ofNat 0, .ofNat 16), (3, .ofNat 9, .ofNat 17), (4, .negSucc 2147483647, .ofNat 2147483647), (5, .ofNat 0, .ofNat 9), (6, .ofNat 0, .ofNat 1), (7, .ofNat 0, .ofNat 16), (8, .negSucc 0, .ofNat 2147480647), (9, .ofNat 0, .ofNat 17), (10, .negSucc 2147483647, .ofNat 2147483647)], [(3, 9, .ofNat 9), (9, 3, .ofNat 0)], [(0, .inl 32), (1, .inr (false, (1, .ofNat 0))), (2, .inr (false, (2, .ofNat 0))), (3, .inr (false, (4, .ofNat 0))), (4, .inr (false, (3, .ofNat 0))), (5, .inr (false, (5, .ofNat 0))), (6, .inr (false, (6, .ofNat 0))), (7, .inr (false, (0, .ofNat 9))), (8, .inr (false, (7, .ofNat 0))), (9, .inr (false, (8, .ofNat 0)))], [], [(32, (0, .ofNat 9), .inl 37), (32, (0, .ofNat 10), .inr (false, (9, .ofNat 0))), (32, (0, .ofNat 11), .inr (false, (10, .ofNat 0)))], []), ((0, 0, .ofNat 8), (0, 0, .ofNat 0), (0, 0, .ofNat 0)), 0, 0)]
set_option maxRecDepth 1000000 in
theorem cv1367 {gh : sxGh} (hg : sxGd sxKw gh) : sxCtV sxKw gh ct1367 := sxMeB_ok (cts := [ct1366]) (cuts := cu1367) (sp := []) 3965 (by decide +kernel) hg (by decide) (by decide) (List.forall_mem_cons.mpr ⟨cv1366 hg, (fun _ h => absurd h List.not_mem_nil)⟩)
/-- LotBeliefs.Course.play -/
def ct1368 : sxCt := (2, 4, (3, [(1, .ofNat 0, .ofNat 17), (2, .ofNat 0, .ofNat 1)], [], [(0, .inl 32), (1, .inl 31), (2, .inr (false, (1, .ofNat 0))), (3, .inr (false, (2, .ofNat 0)))], [], [], []), [(21, 0), (22, 0), (25, 0), (26, 0), (32, 9), (32, 11), (32, 12), (33000037, 0)], [
  (5, [(1, .ofNat 0, .ofNat 17), (2, .ofNat 0, .ofNat 1), (3, .ofNat 0, .ofNat 4095), (4, .negSucc 2147483647, .ofNat 2147483647)], [], [], [], [(32, (0, .ofNat 8), .inr (false, (3, .ofNat 0))), (32, (0, .ofNat 11), .inr (false, (4, .ofNat 0)))], [])], [], 0, 0)
def cu1368 : List sxCu := [
  (9, (4, [(1, .ofNat 0, .ofNat 17), (2, .ofNat 0, .ofNat 1), (3, .ofNat 0, .ofNat 17)], [(2, 3, .ofNat 0), (3, 1, .ofNat 1)], [(0, .inl 32), (1, .inl 31), (2, .inr (false, (1, .ofNat 0))), (3, .inr (false, (2, .ofNat 0))), (4, .inr (false, (3, .ofNat 0)))], [], [], []), ((0, 3, .ofNat 17), (0, 0, .ofNat 0), (0, 0, .ofNat 0)), 0, 0)]
set_option maxRecDepth 1000000 in
theorem cv1368 {gh : sxGh} (hg : sxGd sxKw gh) : sxCtV sxKw gh ct1368 := sxMeB_ok (cts := [ct389, ct261, ct1356, ct277, ct1357, ct1367]) (cuts := cu1368) (sp := []) 134 (by decide +kernel) hg (by decide) (by decide) (List.forall_mem_cons.mpr ⟨cv389 hg, (List.forall_mem_cons.mpr ⟨cv261 hg, (List.forall_mem_cons.mpr ⟨cv1356 hg, (List.forall_mem_cons.mpr ⟨cv277 hg, (List.forall_mem_cons.mpr ⟨cv1357 hg, (List.forall_mem_cons.mpr ⟨cv1367 hg, (fun _ h => absurd h List.not_mem_nil)⟩)⟩)⟩)⟩)⟩)⟩)
/-- LotBeliefs.salted -/
def ct1383 : sxCt := (143, 6, (2, [(1, .negSucc 2147483647, .ofNat 2147483647)], [], [(0, .inl 0), (1, .inr (false, (1, .ofNat 0)))], [], [], []), [(21, 0), (22, 0), (25, 0), (26, 0), (30, 0), (31, 0), (32, 1), (32, 2), (32, 3), (32, 4), (32, 9), (32, 11), (32, 12), (33000037, 0)], [
  (3, [(1, .ofNat 0, .ofNat 4095), (2, .negSucc 0, .ofNat 37)], [], [], [.inr (false, (2, .ofNat 0))], [], [])], [
  (1, (3, [(1, .negSucc 2147483647, .ofNat 2147483647), (2, .negSucc 2147483647, .ofNat 2147483647)], [], [], [], [(30, (0, .ofNat 1), .inr (false, (2, .ofNat 0)))], []))], 1, 6)
def cu1383 : List sxCu := [
  (20, (5, [(1, .ofNat 0, .ofNat 4095), (2, .negSucc 0, .ofNat 37), (3, .ofNat 0, .ofNat 6), (4, .ofNat 0, .ofNat 38)], [(2, 4, .negSucc 0)], [(0, .inl 0), (1, .inr (false, (1, .ofNat 0))), (2, .inr (false, (2, .ofNat 0))), (3, .inr (false, (3, .ofNat 0))), (4, .inr (false, (4, .ofNat 0)))], [], [], []), ((0, 4, .ofNat 38), (0, 0, .ofNat 0), (0, 0, .ofNat 0)), 0, 0)]
set_option maxRecDepth 1000000 in
theorem cv1383 {gh : sxGh} (hg : sxGd sxKw gh) : sxCtV sxKw gh ct1383 := sxMeB_ok (cts := [ct1368, ct1331, ct62]) (cuts := cu1383) (sp := []) 380 (by decide +kernel) hg (by decide) (by decide) (List.forall_mem_cons.mpr ⟨cv1368 hg, (List.forall_mem_cons.mpr ⟨cv1331 hg, (List.forall_mem_cons.mpr ⟨cv62 hg, (fun _ h => absurd h List.not_mem_nil)⟩)⟩)⟩)
/-- LotBeliefs.likely -/
def ct1436 : sxCt := (142, 3, (2, [(1, .negSucc 2147483647, .ofNat 2147483647)], [], [(0, .inl 0), (1, .inr (false, (1, .ofNat 0)))], [], [], []), [(30, 0)], [
  (3, [(1, .ofNat 0, .ofNat 51), (2, .negSucc 0, .ofNat 63)], [], [], [.inr (false, (2, .ofNat 0))], [], [])], [
  (1, (3, [(1, .negSucc 2147483647, .ofNat 2147483647), (2, .negSucc 2147483647, .ofNat 2147483647)], [], [], [], [(30, (0, .ofNat 1), .inr (false, (2, .ofNat 0)))], []))], 1, 6)
def cu1436 : List sxCu := [
  (12, (5, [(1, .ofNat 0, .ofNat 51), (2, .negSucc 0, .ofNat 63), (3, .negSucc 0, .ofNat 63), (4, .ofNat 0, .ofNat 64)], [(2, 4, .negSucc 0), (3, 2, .ofNat 63), (3, 4, .ofNat 62)], [(0, .inl 0), (1, .inr (false, (1, .ofNat 0))), (2, .inr (false, (2, .ofNat 0))), (3, .inr (false, (3, .ofNat 0))), (4, .inr (false, (4, .ofNat 0)))], [], [], []), ((0, 4, .ofNat 64), (0, 0, .ofNat 0), (0, 0, .ofNat 0)), 0, 0)]
set_option maxRecDepth 1000000 in
theorem cv1436 {gh : sxGh} (hg : sxGd sxKw gh) : sxCtV sxKw gh ct1436 := sxMeB_ok (cts := [ct388, ct260, ct84]) (cuts := cu1436) (sp := []) 184 (by decide +kernel) hg (by decide) (by decide) (List.forall_mem_cons.mpr ⟨cv388 hg, (List.forall_mem_cons.mpr ⟨cv260 hg, (List.forall_mem_cons.mpr ⟨cv84 hg, (fun _ h => absurd h List.not_mem_nil)⟩)⟩)⟩)
/-- LotBeliefsModel.likely -/
def ct1437 : sxCt := (304, 2, (2, [(1, .negSucc 2147483647, .ofNat 2147483647)], [], [(0, .inl 78), (1, .inr (false, (1, .ofNat 0)))], [], [], []), [(78, 1), (80, 0)], [
  (4, [(1, .negSucc 2147483647, .ofNat 2147483647), (2, .negSucc 0, .ofNat 63), (3, .ofNat 0, .ofNat 1)], [(3, 2, .ofNat 1)], [], [.inr (false, (2, .ofNat 0))], [(78, (0, .ofNat 0), .inr (false, (3, .ofNat 0)))], [])], [], 0, 0)
def cu1437 : List sxCu := [
  (35, (5, [(1, .ofNat 0, .ofNat 51), (2, .negSucc 0, .ofNat 63), (3, .negSucc 0, .ofNat 2147483647), (4, .ofNat 0, .ofNat 64)], [(2, 4, .negSucc 0)], [(0, .inl 78), (1, .inr (false, (1, .ofNat 0))), (2, .inr (false, (2, .ofNat 0))), (3, .inr (false, (3, .ofNat 0))), (4, .inr (false, (4, .ofNat 0)))], [], [(78, (0, .ofNat 0), .inr (false, (0, .ofNat 0)))], []), ((0, 4, .ofNat 64), (0, 0, .ofNat 13), (0, 0, .ofNat 0)), 0, 0), 
  (73, (8, [(1, .ofNat 0, .ofNat 51), (2, .negSucc 0, .ofNat 62), (3, .negSucc 0, .ofNat 2147483647), (4, .ofNat 0, .ofNat 63), (5, .negSucc 2147483647, .ofNat 2147483647), (6, .ofNat 0, .ofNat 12), (7, .ofNat 0, .ofNat 6)], [(2, 4, .negSucc 0)], [(0, .inl 78), (1, .inr (false, (1, .ofNat 0))), (2, .inr (false, (2, .ofNat 0))), (3, .inr (false, (3, .ofNat 0))), (4, .inr (false, (4, .ofNat 0))), (5, .inr (false, (5, .ofNat 0))), (6, .inr (false, (6, .ofNat 0)))], [], [(78, (0, .ofNat 0), .inr (false, (0, .ofNat 0))), (78, (0, .ofNat 12), .inl 82), (78, (0, .ofNat 19), .inl 89), (82, (0, .ofNat 0), .inr (false, (7, .ofNat 0)))], []), ((0, 4, .ofNat 64), (0, 6, .ofNat 12), (0, 0, .ofNat 0)), 0, 0)]
set_option maxRecDepth 1000000 in
theorem cv1437 {gh : sxGh} (hg : sxGd sxKw gh) : sxCtV sxKw gh ct1437 := sxMeB_ok (cts := []) (cuts := cu1437) (sp := []) 228 (by decide +kernel) hg (by decide) (by decide) (fun _ h => absurd h List.not_mem_nil)
/-- LotBeliefsModel.likely -/
def ct1438 : sxCt := (304, 2, (2, [(1, .ofNat 0, .ofNat 51)], [], [(0, .inl 78), (1, .inr (false, (1, .ofNat 0)))], [], [], []), [(78, 1)], [
  (3, [(1, .ofNat 0, .ofNat 51), (2, .negSucc 0, .ofNat 63)], [], [], [.inr (false, (2, .ofNat 0))], [(78, (0, .ofNat 0), .inr (false, (0, .ofNat 0)))], [])], [], 0, 0)
def cu1438 : List sxCu := [
  (35, (5, [(1, .ofNat 0, .ofNat 51), (2, .negSucc 0, .ofNat 63), (3, .negSucc 0, .ofNat 2147483647), (4, .ofNat 0, .ofNat 64)], [(2, 4, .negSucc 0)], [(0, .inl 78), (1, .inr (false, (1, .ofNat 0))), (2, .inr (false, (2, .ofNat 0))), (3, .inr (false, (3, .ofNat 0))), (4, .inr (false, (4, .ofNat 0)))], [], [(78, (0, .ofNat 0), .inr (false, (0, .ofNat 0)))], []), ((0, 4, .ofNat 64), (0, 0, .ofNat 13), (0, 0, .ofNat 0)), 0, 0), 
  (73, (8, [(1, .ofNat 0, .ofNat 51), (2, .negSucc 0, .ofNat 62), (3, .negSucc 0, .ofNat 2147483647), (4, .ofNat 0, .ofNat 63), (5, .negSucc 2147483647, .ofNat 2147483647), (6, .ofNat 0, .ofNat 12), (7, .ofNat 0, .ofNat 6)], [(2, 4, .negSucc 0)], [(0, .inl 78), (1, .inr (false, (1, .ofNat 0))), (2, .inr (false, (2, .ofNat 0))), (3, .inr (false, (3, .ofNat 0))), (4, .inr (false, (4, .ofNat 0))), (5, .inr (false, (5, .ofNat 0))), (6, .inr (false, (6, .ofNat 0)))], [], [(78, (0, .ofNat 0), .inr (false, (0, .ofNat 0))), (78, (0, .ofNat 12), .inl 82), (78, (0, .ofNat 19), .inl 89), (82, (0, .ofNat 0), .inr (false, (7, .ofNat 0)))], []), ((0, 4, .ofNat 64), (0, 6, .ofNat 12), (0, 0, .ofNat 0)), 0, 0)]
set_option maxRecDepth 1000000 in
theorem cv1438 {gh : sxGh} (hg : sxGd sxKw gh) : sxCtV sxKw gh ct1438 := sxMeB_ok (cts := []) (cuts := cu1438) (sp := []) 160 (by decide +kernel) hg (by decide) (by decide) (fun _ h => absurd h List.not_mem_nil)
/-- LotBeliefs.split -/
def ct1439 : sxCt := (141, 3, (3, [(1, .negSucc 2147483647, .ofNat 2147483647), (2, .negSucc 2147483647, .ofNat 2147483647)], [], [(0, .inl 0), (1, .inr (false, (1, .ofNat 0))), (2, .inr (false, (2, .ofNat 0)))], [], [], []), [(30, 0)], [
  (4, [(1, .ofNat 0, .ofNat 51), (2, .ofNat 0, .ofNat 1), (3, .ofNat 0, .ofNat 127)], [], [], [.inr (false, (3, .ofNat 0))], [], [])], [
  (1, (4, [(1, .negSucc 2147483647, .ofNat 2147483647), (2, .negSucc 2147483647, .ofNat 2147483647), (3, .negSucc 2147483647, .ofNat 2147483647)], [], [], [], [(30, (0, .ofNat 1), .inr (false, (3, .ofNat 0)))], []))], 1, 6)
def cu1439 : List sxCu := [
  (27, (6, [(1, .ofNat 0, .ofNat 51), (2, .ofNat 0, .ofNat 1), (3, .ofNat 0, .ofNat 5), (4, .ofNat 0, .ofNat 127), (5, .ofNat 1, .ofNat 6)], [(3, 5, .negSucc 0)], [(0, .inl 0), (1, .inr (false, (1, .ofNat 0))), (2, .inr (false, (2, .ofNat 0))), (3, .inr (false, (3, .ofNat 0))), (4, .inr (false, (4, .ofNat 0))), (5, .inr (false, (5, .ofNat 0)))], [], [], []), ((0, 5, .ofNat 6), (0, 0, .ofNat 0), (0, 0, .ofNat 0)), 0, 0)]
set_option maxRecDepth 1000000 in
theorem cv1439 {gh : sxGh} (hg : sxGd sxKw gh) : sxCtV sxKw gh ct1439 := sxMeB_ok (cts := [ct24]) (cuts := cu1439) (sp := []) 725 (by decide +kernel) hg (by decide) (by decide) (List.forall_mem_cons.mpr ⟨cv24 hg, (fun _ h => absurd h List.not_mem_nil)⟩)
/-- LotBeliefsModel.split -/
def ct1442 : sxCt := (303, 2, (3, [(1, .negSucc 2147483647, .ofNat 2147483647), (2, .negSucc 2147483647, .ofNat 2147483647)], [], [(0, .inl 78), (1, .inr (false, (1, .ofNat 0))), (2, .inr (false, (2, .ofNat 0)))], [], [], []), [(78, 1), (80, 0)], [
  (5, [(1, .negSucc 2147483647, .ofNat 2147483647), (2, .negSucc 2147483647, .ofNat 2147483647), (3, .negSucc 2147483647, .ofNat 2147483647), (4, .ofNat 0, .ofNat 1)], [], [], [.inr (false, (3, .ofNat 0))], [(78, (0, .ofNat 0), .inr (false, (4, .ofNat 0)))], [])], [], 0, 0)
def cu1442 : List sxCu := [
  (45, (6, [(1, .ofNat 0, .ofNat 51), (2, .ofNat 0, .ofNat 1), (3, .negSucc 0, .ofNat 5), (4, .negSucc 2147483647, .ofNat 2147483647), (5, .ofNat 0, .ofNat 6)], [(3, 5, .negSucc 0)], [(0, .inl 78), (1, .inr (false, (1, .ofNat 0))), (2, .inr (false, (2, .ofNat 0))), (3, .inr (false, (3, .ofNat 0))), (4, .inr (false, (4, .ofNat 0))), (5, .inr (false, (5, .ofNat 0)))], [], [(78, (0, .ofNat 0), .inr (false, (0, .ofNat 0)))], []), ((0, 5, .ofNat 6), (0, 0, .ofNat 0), (0, 0, .ofNat 0)), 0, 0)]
set_option maxRecDepth 1000000 in
theorem cv1442 {gh : sxGh} (hg : sxGd sxKw gh) : sxCtV sxKw gh ct1442 := sxMeB_ok (cts := [ct607, ct93]) (cuts := cu1442) (sp := []) 334 (by decide +kernel) hg (by decide) (by decide) (List.forall_mem_cons.mpr ⟨cv607 hg, (List.forall_mem_cons.mpr ⟨cv93 hg, (fun _ h => absurd h List.not_mem_nil)⟩)⟩)
/-- LotBeliefsModel.split -/
def ct1443 : sxCt := (303, 2, (3, [(1, .ofNat 0, .ofNat 51), (2, .ofNat 0, .ofNat 1)], [], [(0, .inl 78), (1, .inr (false, (1, .ofNat 0))), (2, .inr (false, (2, .ofNat 0)))], [], [], []), [(78, 1)], [
  (4, [(1, .ofNat 0, .ofNat 51), (2, .ofNat 0, .ofNat 1), (3, .negSucc 2147483647, .ofNat 2147483647)], [], [], [.inr (false, (3, .ofNat 0))], [(78, (0, .ofNat 0), .inr (false, (0, .ofNat 0)))], [])], [], 0, 0)
def cu1443 : List sxCu := [
  (45, (6, [(1, .ofNat 0, .ofNat 51), (2, .ofNat 0, .ofNat 1), (3, .negSucc 0, .ofNat 5), (4, .negSucc 2147483647, .ofNat 2147483647), (5, .ofNat 0, .ofNat 6)], [(3, 5, .negSucc 0)], [(0, .inl 78), (1, .inr (false, (1, .ofNat 0))), (2, .inr (false, (2, .ofNat 0))), (3, .inr (false, (3, .ofNat 0))), (4, .inr (false, (4, .ofNat 0))), (5, .inr (false, (5, .ofNat 0)))], [], [(78, (0, .ofNat 0), .inr (false, (0, .ofNat 0)))], []), ((0, 5, .ofNat 6), (0, 0, .ofNat 0), (0, 0, .ofNat 0)), 0, 0)]
set_option maxRecDepth 1000000 in
theorem cv1443 {gh : sxGh} (hg : sxGd sxKw gh) : sxCtV sxKw gh ct1443 := sxMeB_ok (cts := [ct607, ct93]) (cuts := cu1443) (sp := []) 200 (by decide +kernel) hg (by decide) (by decide) (List.forall_mem_cons.mpr ⟨cv607 hg, (List.forall_mem_cons.mpr ⟨cv93 hg, (fun _ h => absurd h List.not_mem_nil)⟩)⟩)
/-- LotBeliefsModel.proof -/
def ct1470 : sxCt := (302, 2, (2, [(1, .negSucc 2147483647, .ofNat 2147483647)], [], [(0, .inl 78), (1, .inr (false, (1, .ofNat 0)))], [], [], []), [(78, 1), (80, 0)], [
  (4, [(1, .negSucc 2147483647, .ofNat 2147483647), (2, .negSucc 0, .ofNat 4095), (3, .ofNat 0, .ofNat 1)], [(3, 2, .ofNat 1)], [], [.inr (false, (2, .ofNat 0))], [(78, (0, .ofNat 0), .inr (false, (3, .ofNat 0)))], [])], [], 0, 0)
def cu1470 : List sxCu := [
  (32, (4, [(1, .ofNat 0, .ofNat 51), (2, .negSucc 0, .ofNat 4095), (3, .ofNat 0, .ofNat 4096)], [(2, 3, .negSucc 0)], [(0, .inl 78), (1, .inr (false, (1, .ofNat 0))), (2, .inr (false, (2, .ofNat 0))), (3, .inr (false, (3, .ofNat 0)))], [], [(78, (0, .ofNat 0), .inr (false, (0, .ofNat 0)))], []), ((0, 3, .ofNat 4096), (0, 0, .ofNat 0), (0, 0, .ofNat 0)), 0, 0)]
set_option maxRecDepth 1000000 in
theorem cv1470 {gh : sxGh} (hg : sxGd sxKw gh) : sxCtV sxKw gh ct1470 := sxMeB_ok (cts := [ct88, ct1146]) (cuts := cu1470) (sp := []) 262 (by decide +kernel) hg (by decide) (by decide) (List.forall_mem_cons.mpr ⟨cv88 hg, (List.forall_mem_cons.mpr ⟨cv1146 hg, (fun _ h => absurd h List.not_mem_nil)⟩)⟩)
/-- LotBeliefs.Subsets.fill -/
def ct1471 : sxCt := (58, 0, (2, [(1, .ofNat 0, .ofNat 51)], [], [(0, .inl 45), (1, .inl 11), (2, .inr (false, (1, .ofNat 0)))], [], [], []), [(45, 2), (45, 3), (46, 0)], [
  (5, [(1, .ofNat 0, .ofNat 51), (2, .ofNat 0, .ofNat 12), (3, .ofNat 1, .ofNat 4096), (4, .negSucc 9223372036854775807, .ofNat 9223372036854775807)], [], [], [], [(45, (0, .ofNat 1), .inr (false, (2, .ofNat 0))), (45, (0, .ofNat 2), .inr (false, (3, .ofNat 0))), (46, (0, .ofNat 0), .inr (true, (4, .ofNat 0)))], [])], [], 0, 0)
def cu1471 : List sxCu := [
  (40, (6, [(1, .ofNat 0, .ofNat 51), (2, .ofNat 0, .ofNat 12), (3, .ofNat 0, .ofNat 12), (4, .ofNat 1, .ofNat 4096), (5, .negSucc 9223372036854775807, .ofNat 9223372036854775807)], [], [(0, .inl 45), (1, .inl 11), (2, .inr (false, (1, .ofNat 0))), (3, .inr (false, (2, .ofNat 0)))], [], [(11, (0, .ofNat 2), .inr (false, (3, .ofNat 0))), (11, (0, .ofNat 11), .inl 16), (45, (0, .ofNat 0), .inl 46), (45, (0, .ofNat 1), .inr (false, (3, .ofNat 0))), (45, (0, .ofNat 2), .inr (false, (4, .ofNat 0))), (46, (0, .ofNat 0), .inr (true, (5, .ofNat 0)))], []), ((0, 2, .ofNat 12), (0, 0, .ofNat 4096), (0, 0, .ofNat 0)), 0, 0), 
  (56, (8, [(1, .ofNat 0, .ofNat 51), (2, .ofNat 0, .ofNat 11), (3, .ofNat 1, .ofNat 4095), (4, .ofNat 0, .ofNat 4095), (5, .ofNat 1, .ofNat 12), (6, .ofNat 1, .ofNat 4096), (7, .negSucc 9223372036854775807, .ofNat 9223372036854775807)], [(2, 5, .negSucc 0)], [(0, .inl 45), (1, .inl 11), (2, .inr (false, (1, .ofNat 0))), (3, .inr (false, (2, .ofNat 0))), (4, .inr (false, (3, .ofNat 0))), (5, .inr (false, (4, .ofNat 0)))], [], [(11, (0, .ofNat 2), .inr (false, (5, .ofNat 0))), (11, (0, .ofNat 11), .inl 16), (45, (0, .ofNat 0), .inl 46), (45, (0, .ofNat 1), .inr (false, (5, .ofNat 0))), (45, (0, .ofNat 2), .inr (false, (6, .ofNat 0))), (46, (0, .ofNat 0), .inr (true, (7, .ofNat 0)))], []), ((0, 2, .ofNat 12), (0, 4, .ofNat 4095), (0, 0, .ofNat 0)), 0, 0)]
set_option maxRecDepth 1000000 in
theorem cv1471 {gh : sxGh} (hg : sxGd sxKw gh) : sxCtV sxKw gh ct1471 := sxMeB_ok (cts := []) (cuts := cu1471) (sp := []) 126 (by decide +kernel) hg (by decide) (by decide) (fun _ h => absurd h List.not_mem_nil)
/-- LotBeliefs.Subsets.proving -/
def ct1472 : sxCt := (62, 1, (2, [(1, .negSucc 9223372036854775807, .ofNat 9223372036854775807)], [], [(0, .inl 45), (1, .inr (true, (1, .ofNat 0)))], [], [], []), [], [
  (3, [(1, .negSucc 9223372036854775807, .ofNat 9223372036854775807), (2, .negSucc 0, .ofNat 4095)], [], [], [.inr (false, (2, .ofNat 0))], [], [])], [], 0, 0)
def cu1472 : List sxCu := [
  (9, (5, [(1, .negSucc 9223372036854775807, .ofNat 9223372036854775807), (2, .negSucc 0, .ofNat 4095), (3, .ofNat 0, .ofNat 63), (4, .ofNat 0, .ofNat 4096)], [(2, 4, .negSucc 0)], [(0, .inl 45), (1, .inr (true, (1, .ofNat 0))), (3, .inr (false, (2, .ofNat 0))), (4, .inr (false, (3, .ofNat 0))), (5, .inr (false, (4, .ofNat 0)))], [], [], []), ((0, 4, .ofNat 4096), (0, 0, .ofNat 0), (0, 0, .ofNat 0)), 0, 0)]
set_option maxRecDepth 1000000 in
theorem cv1472 {gh : sxGh} (hg : sxGd sxKw gh) : sxCtV sxKw gh ct1472 := sxMeB_ok (cts := [ct84]) (cuts := cu1472) (sp := []) 170 (by decide +kernel) hg (by decide) (by decide) (List.forall_mem_cons.mpr ⟨cv84 hg, (fun _ h => absurd h List.not_mem_nil)⟩)
/-- LotBeliefsModel.proof -/
def ct1473 : sxCt := (302, 2, (2, [(1, .ofNat 0, .ofNat 51)], [], [(0, .inl 78), (1, .inr (false, (1, .ofNat 0)))], [], [], []), [(78, 1)], [
  (3, [(1, .ofNat 0, .ofNat 51), (2, .negSucc 0, .ofNat 4095)], [], [], [.inr (false, (2, .ofNat 0))], [(78, (0, .ofNat 0), .inr (false, (0, .ofNat 0)))], [])], [], 0, 0)
def cu1473 : List sxCu := [
  (32, (4, [(1, .ofNat 0, .ofNat 51), (2, .negSucc 0, .ofNat 4095), (3, .ofNat 0, .ofNat 4096)], [(2, 3, .negSucc 0)], [(0, .inl 78), (1, .inr (false, (1, .ofNat 0))), (2, .inr (false, (2, .ofNat 0))), (3, .inr (false, (3, .ofNat 0)))], [], [(78, (0, .ofNat 0), .inr (false, (0, .ofNat 0)))], []), ((0, 3, .ofNat 4096), (0, 0, .ofNat 0), (0, 0, .ofNat 0)), 0, 0)]
set_option maxRecDepth 1000000 in
theorem cv1473 {gh : sxGh} (hg : sxGd sxKw gh) : sxCtV sxKw gh ct1473 := sxMeB_ok (cts := [ct88, ct1146]) (cuts := cu1473) (sp := []) 194 (by decide +kernel) hg (by decide) (by decide) (List.forall_mem_cons.mpr ⟨cv88 hg, (List.forall_mem_cons.mpr ⟨cv1146 hg, (fun _ h => absurd h List.not_mem_nil)⟩)⟩)
/-- LotBeliefs.Subsets.fill -/
def ct1474 : sxCt := (58, 0, (2, [(1, .ofNat 0, .ofNat 51)], [], [(0, .inl 45), (1, .inl 3), (2, .inr (false, (1, .ofNat 0)))], [], [], []), [(45, 2), (45, 3), (46, 0)], [
  (5, [(1, .ofNat 0, .ofNat 51), (2, .ofNat 0, .ofNat 12), (3, .ofNat 1, .ofNat 4096), (4, .negSucc 9223372036854775807, .ofNat 9223372036854775807)], [], [], [], [(45, (0, .ofNat 1), .inr (false, (2, .ofNat 0))), (45, (0, .ofNat 2), .inr (false, (3, .ofNat 0))), (46, (0, .ofNat 0), .inr (true, (4, .ofNat 0)))], [])], [], 0, 0)
def cu1474 : List sxCu := [
  (40, (6, [(1, .ofNat 0, .ofNat 51), (2, .ofNat 0, .ofNat 12), (3, .ofNat 0, .ofNat 12), (4, .ofNat 1, .ofNat 4096), (5, .negSucc 9223372036854775807, .ofNat 9223372036854775807)], [], [(0, .inl 45), (1, .inl 3), (2, .inr (false, (1, .ofNat 0))), (3, .inr (false, (2, .ofNat 0)))], [], [(3, (0, .ofNat 2), .inr (false, (3, .ofNat 0))), (3, (0, .ofNat 11), .inl 8), (45, (0, .ofNat 0), .inl 46), (45, (0, .ofNat 1), .inr (false, (3, .ofNat 0))), (45, (0, .ofNat 2), .inr (false, (4, .ofNat 0))), (46, (0, .ofNat 0), .inr (true, (5, .ofNat 0)))], []), ((0, 2, .ofNat 12), (0, 0, .ofNat 4096), (0, 0, .ofNat 0)), 0, 0), 
  (56, (8, [(1, .ofNat 0, .ofNat 51), (2, .ofNat 0, .ofNat 11), (3, .ofNat 1, .ofNat 4095), (4, .ofNat 0, .ofNat 4095), (5, .ofNat 1, .ofNat 12), (6, .ofNat 1, .ofNat 4096), (7, .negSucc 9223372036854775807, .ofNat 9223372036854775807)], [(2, 5, .negSucc 0)], [(0, .inl 45), (1, .inl 3), (2, .inr (false, (1, .ofNat 0))), (3, .inr (false, (2, .ofNat 0))), (4, .inr (false, (3, .ofNat 0))), (5, .inr (false, (4, .ofNat 0)))], [], [(3, (0, .ofNat 2), .inr (false, (5, .ofNat 0))), (3, (0, .ofNat 11), .inl 8), (45, (0, .ofNat 0), .inl 46), (45, (0, .ofNat 1), .inr (false, (5, .ofNat 0))), (45, (0, .ofNat 2), .inr (false, (6, .ofNat 0))), (46, (0, .ofNat 0), .inr (true, (7, .ofNat 0)))], []), ((0, 2, .ofNat 12), (0, 4, .ofNat 4095), (0, 0, .ofNat 0)), 0, 0)]
set_option maxRecDepth 1000000 in
theorem cv1474 {gh : sxGh} (hg : sxGd sxKw gh) : sxCtV sxKw gh ct1474 := sxMeB_ok (cts := []) (cuts := cu1474) (sp := []) 126 (by decide +kernel) hg (by decide) (by decide) (fun _ h => absurd h List.not_mem_nil)
/-- LotBeliefsModel.isWhole -/
def ct1500 : sxCt := (299, 1, (3, [(1, .ofNat 0, .ofNat 4095), (2, .ofNat 0, .ofNat 51)], [], [(0, .inl 78), (1, .inr (false, (1, .ofNat 0))), (2, .inr (false, (2, .ofNat 0)))], [], [], []), [], [
  (3, [(1, .ofNat 0, .ofNat 4095), (2, .ofNat 0, .ofNat 51)], [], [], [.inr (false, (0, .ofNat 0))], [], []), 
  (3, [(1, .ofNat 0, .ofNat 4095), (2, .ofNat 0, .ofNat 51)], [], [], [.inr (false, (0, .ofNat 1))], [], [])], [], 0, 0)
def cu1500 : List sxCu := [
  (15, (4, [(1, .ofNat 0, .ofNat 4095), (2, .ofNat 0, .ofNat 51), (3, .ofNat 0, .ofNat 12)], [], [(0, .inl 78), (1, .inr (false, (1, .ofNat 0))), (2, .inr (false, (2, .ofNat 0))), (3, .inr (false, (3, .ofNat 0)))], [], [], []), ((0, 3, .ofNat 12), (0, 0, .ofNat 0), (0, 0, .ofNat 0)), 0, 0)]
set_option maxRecDepth 1000000 in
theorem cv1500 {gh : sxGh} (hg : sxGd sxKw gh) : sxCtV sxKw gh ct1500 := sxMeB_ok (cts := [ct1146]) (cuts := cu1500) (sp := []) 112 (by decide +kernel) hg (by decide) (by decide) (List.forall_mem_cons.mpr ⟨cv1146 hg, (fun _ h => absurd h List.not_mem_nil)⟩)
/-- LotBeliefsModel.whole -/
def ct1501 : sxCt := (301, 2, (3, [(1, .negSucc 2147483647, .ofNat 2147483647), (2, .negSucc 2147483647, .ofNat 2147483647)], [], [(0, .inl 78), (1, .inr (false, (1, .ofNat 0))), (2, .inr (false, (2, .ofNat 0)))], [], [], []), [(78, 1), (80, 0)], [
  (5, [(1, .negSucc 2147483647, .ofNat 2147483647), (2, .negSucc 2147483647, .ofNat 2147483647), (3, .negSucc 0, .ofNat 4095), (4, .ofNat 0, .ofNat 1)], [(4, 3, .ofNat 1)], [], [.inr (false, (3, .ofNat 0))], [(78, (0, .ofNat 0), .inr (false, (4, .ofNat 0)))], [])], [], 0, 0)
def cu1501 : List sxCu := [
  (33, (5, [(1, .ofNat 0, .ofNat 51), (2, .negSucc 2147483647, .ofNat 2147483647), (3, .ofNat 0, .ofNat 4096), (4, .ofNat 0, .ofNat 4096)], [(3, 4, .ofNat 0)], [(0, .inl 78), (1, .inr (false, (1, .ofNat 0))), (2, .inr (false, (2, .ofNat 0))), (3, .inr (false, (3, .ofNat 0))), (4, .inr (false, (4, .ofNat 0)))], [], [(78, (0, .ofNat 0), .inr (false, (0, .ofNat 0)))], []), ((0, 4, .ofNat 4096), (0, 0, .ofNat 0), (0, 0, .ofNat 0)), 0, 0)]
set_option maxRecDepth 1000000 in
theorem cv1501 {gh : sxGh} (hg : sxGd sxKw gh) : sxCtV sxKw gh ct1501 := sxMeB_ok (cts := [ct1500]) (cuts := cu1501) (sp := []) 193 (by decide +kernel) hg (by decide) (by decide) (List.forall_mem_cons.mpr ⟨cv1500 hg, (fun _ h => absurd h List.not_mem_nil)⟩)
/-- LotBeliefs.Subsets.isWhole -/
def ct1527 : sxCt := (65, 0, (2, [(1, .ofNat 0, .ofNat 4095)], [], [(0, .inl 45), (1, .inr (false, (1, .ofNat 0)))], [], [], []), [], [
  (2, [(1, .ofNat 0, .ofNat 4095)], [], [], [.inr (false, (0, .ofNat 0))], [], []), 
  (2, [(1, .ofNat 0, .ofNat 4095)], [], [], [.inr (false, (0, .ofNat 1))], [], [])], [], 0, 0)
def cu1527 : List sxCu := [
  (15, (3, [(1, .ofNat 0, .ofNat 4095), (2, .ofNat 0, .ofNat 12)], [], [(0, .inl 45), (1, .inr (false, (1, .ofNat 0))), (2, .inr (false, (2, .ofNat 0)))], [], [(45, (0, .ofNat 0), .inl 46)], []), ((0, 2, .ofNat 12), (0, 0, .ofNat 0), (0, 0, .ofNat 0)), 0, 0)]
set_option maxRecDepth 1000000 in
theorem cv1527 {gh : sxGh} (hg : sxGd sxKw gh) : sxCtV sxKw gh ct1527 := sxMeB_ok (cts := []) (cuts := cu1527) (sp := []) 112 (by decide +kernel) hg (by decide) (by decide) (fun _ h => absurd h List.not_mem_nil)
/-- LotBeliefs.Subsets.wholeAt -/
def ct1528 : sxCt := (64, 1, (2, [(1, .negSucc 2147483647, .ofNat 2147483647)], [], [(0, .inl 45), (1, .inr (false, (1, .ofNat 0)))], [], [], []), [], [
  (3, [(1, .negSucc 2147483647, .ofNat 2147483647), (2, .negSucc 0, .ofNat 4095)], [], [], [.inr (false, (2, .ofNat 0))], [], [])], [], 0, 0)
def cu1528 : List sxCu := [
  (4, (4, [(1, .negSucc 2147483647, .ofNat 2147483647), (2, .ofNat 0, .ofNat 4096), (3, .ofNat 0, .ofNat 4096)], [(2, 3, .ofNat 0)], [(0, .inl 45), (1, .inr (false, (1, .ofNat 0))), (2, .inr (false, (2, .ofNat 0))), (3, .inr (false, (3, .ofNat 0)))], [], [], []), ((0, 3, .ofNat 4096), (0, 0, .ofNat 0), (0, 0, .ofNat 0)), 0, 0)]
set_option maxRecDepth 1000000 in
theorem cv1528 {gh : sxGh} (hg : sxGd sxKw gh) : sxCtV sxKw gh ct1528 := sxMeB_ok (cts := [ct1527]) (cuts := cu1528) (sp := []) 86 (by decide +kernel) hg (by decide) (by decide) (List.forall_mem_cons.mpr ⟨cv1527 hg, (fun _ h => absurd h List.not_mem_nil)⟩)
/-- LotBeliefsModel.whole -/
def ct1529 : sxCt := (301, 2, (3, [(1, .ofNat 0, .ofNat 51), (2, .negSucc 2147483647, .ofNat 2147483647)], [], [(0, .inl 78), (1, .inr (false, (1, .ofNat 0))), (2, .inr (false, (2, .ofNat 0)))], [], [], []), [(78, 1)], [
  (4, [(1, .ofNat 0, .ofNat 51), (2, .negSucc 2147483647, .ofNat 2147483647), (3, .negSucc 0, .ofNat 4095)], [], [], [.inr (false, (3, .ofNat 0))], [(78, (0, .ofNat 0), .inr (false, (0, .ofNat 0)))], [])], [], 0, 0)
def cu1529 : List sxCu := [
  (33, (5, [(1, .ofNat 0, .ofNat 51), (2, .negSucc 2147483647, .ofNat 2147483647), (3, .ofNat 0, .ofNat 4096), (4, .ofNat 0, .ofNat 4096)], [(3, 4, .ofNat 0)], [(0, .inl 78), (1, .inr (false, (1, .ofNat 0))), (2, .inr (false, (2, .ofNat 0))), (3, .inr (false, (3, .ofNat 0))), (4, .inr (false, (4, .ofNat 0)))], [], [(78, (0, .ofNat 0), .inr (false, (0, .ofNat 0)))], []), ((0, 4, .ofNat 4096), (0, 0, .ofNat 0), (0, 0, .ofNat 0)), 0, 0)]
set_option maxRecDepth 1000000 in
theorem cv1529 {gh : sxGh} (hg : sxGd sxKw gh) : sxCtV sxKw gh ct1529 := sxMeB_ok (cts := [ct1500]) (cuts := cu1529) (sp := []) 125 (by decide +kernel) hg (by decide) (by decide) (List.forall_mem_cons.mpr ⟨cv1500 hg, (fun _ h => absurd h List.not_mem_nil)⟩)
/-- LotBeliefs.Subsets.core -/
def ct1530 : sxCt := (61, 1, (1, [], [], [(0, .inl 45)], [], [], []), [], [
  (2, [(1, .negSucc 0, .ofNat 4095)], [], [], [.inr (false, (1, .ofNat 0))], [], [])], [], 0, 0)
def cu1530 : List sxCu := [
  (7, (4, [(1, .negSucc 0, .ofNat 4095), (2, .ofNat 0, .ofNat 63), (3, .ofNat 0, .ofNat 4096)], [(1, 3, .negSucc 0)], [(0, .inl 45), (1, .inr (false, (1, .ofNat 0))), (2, .inr (false, (2, .ofNat 0))), (3, .inr (false, (3, .ofNat 0)))], [], [], []), ((0, 3, .ofNat 4096), (0, 0, .ofNat 0), (0, 0, .ofNat 0)), 0, 0)]
set_option maxRecDepth 1000000 in
theorem cv1530 {gh : sxGh} (hg : sxGd sxKw gh) : sxCtV sxKw gh ct1530 := sxMeB_ok (cts := [ct84]) (cuts := cu1530) (sp := []) 100 (by decide +kernel) hg (by decide) (by decide) (List.forall_mem_cons.mpr ⟨cv84 hg, (fun _ h => absurd h List.not_mem_nil)⟩)
/-- LotBeliefs.Subsets.wholes -/
def ct1531 : sxCt := (63, 1, (1, [], [], [(0, .inl 45)], [], [], []), [], [
  (2, [(1, .ofNat 0, .ofNat 4096)], [], [], [.inr (false, (1, .ofNat 0))], [], [])], [], 0, 0)
def cu1531 : List sxCu := [
  (4, (3, [(1, .ofNat 0, .ofNat 4096), (2, .ofNat 0, .ofNat 4096)], [(1, 2, .ofNat 0)], [(0, .inl 45), (1, .inr (false, (1, .ofNat 0))), (2, .inr (false, (2, .ofNat 0)))], [], [], []), ((0, 2, .ofNat 4096), (0, 0, .ofNat 0), (0, 0, .ofNat 0)), 0, 0)]
set_option maxRecDepth 1000000 in
theorem cv1531 {gh : sxGh} (hg : sxGd sxKw gh) : sxCtV sxKw gh ct1531 := sxMeB_ok (cts := [ct1527]) (cuts := cu1531) (sp := []) 81 (by decide +kernel) hg (by decide) (by decide) (List.forall_mem_cons.mpr ⟨cv1527 hg, (fun _ h => absurd h List.not_mem_nil)⟩)
/-- LotBeliefs.Subsets.greatest -/
def ct1532 : sxCt := (60, 1, (1, [], [], [(0, .inl 45)], [], [], []), [], [
  (2, [(1, .negSucc 0, .ofNat 4095)], [], [], [.inr (false, (1, .ofNat 0))], [], [])], [], 0, 0)
def cu1532 : List sxCu := [
  (6, (4, [(1, .negSucc 0, .ofNat 4095), (2, .negSucc 0, .ofNat 63), (3, .ofNat 0, .ofNat 4096)], [(1, 3, .negSucc 0)], [(0, .inl 45), (1, .inr (false, (1, .ofNat 0))), (2, .inr (false, (2, .ofNat 0))), (3, .inr (false, (3, .ofNat 0)))], [], [], []), ((0, 3, .ofNat 4096), (0, 0, .ofNat 0), (0, 0, .ofNat 0)), 0, 0)]
set_option maxRecDepth 1000000 in
theorem cv1532 {gh : sxGh} (hg : sxGd sxKw gh) : sxCtV sxKw gh ct1532 := sxMeB_ok (cts := [ct84]) (cuts := cu1532) (sp := []) 113 (by decide +kernel) hg (by decide) (by decide) (List.forall_mem_cons.mpr ⟨cv84 hg, (fun _ h => absurd h List.not_mem_nil)⟩)
/-- LotBeliefs.Subsets.fitting -/
def ct1533 : sxCt := (59, 0, (1, [], [], [(0, .inl 45)], [], [], []), [], [
  (2, [(1, .ofNat 0, .ofNat 4096)], [], [], [.inr (false, (1, .ofNat 0))], [], [])], [], 0, 0)
def cu1533 : List sxCu := [
  (4, (3, [(1, .ofNat 0, .ofNat 4096), (2, .ofNat 0, .ofNat 4096)], [(1, 2, .ofNat 0)], [(0, .inl 45), (1, .inr (false, (1, .ofNat 0))), (2, .inr (false, (2, .ofNat 0)))], [], [], []), ((0, 2, .ofNat 4096), (0, 0, .ofNat 0), (0, 0, .ofNat 0)), 0, 0)]
set_option maxRecDepth 1000000 in
theorem cv1533 {gh : sxGh} (hg : sxGd sxKw gh) : sxCtV sxKw gh ct1533 := sxMeB_ok (cts := []) (cuts := cu1533) (sp := []) 87 (by decide +kernel) hg (by decide) (by decide) (fun _ h => absurd h List.not_mem_nil)
/-- LotBeliefs.sets -/
def ct1534 : sxCt := (138, 3, (3, [(1, .negSucc 2147483647, .ofNat 2147483647), (2, .negSucc 2147483647, .ofNat 2147483647)], [], [(0, .inl 0), (1, .inr (false, (1, .ofNat 0))), (2, .inr (false, (2, .ofNat 0)))], [], [], []), [(30, 0), (45, 2), (45, 3), (46, 0)], [
  (7, [(1, .ofNat 0, .ofNat 51), (2, .ofNat 0, .ofNat 3), (3, .negSucc 0, .ofNat 4096), (4, .ofNat 0, .ofNat 12), (5, .ofNat 1, .ofNat 4096), (6, .negSucc 9223372036854775807, .ofNat 9223372036854775807)], [], [], [.inr (false, (3, .ofNat 0))], [(45, (0, .ofNat 1), .inr (false, (4, .ofNat 0))), (45, (0, .ofNat 2), .inr (false, (5, .ofNat 0))), (46, (0, .ofNat 0), .inr (true, (6, .ofNat 0)))], [])], [
  (1, (4, [(1, .negSucc 2147483647, .ofNat 2147483647), (2, .negSucc 2147483647, .ofNat 2147483647), (3, .negSucc 2147483647, .ofNat 2147483647)], [], [], [], [(30, (0, .ofNat 1), .inr (false, (3, .ofNat 0)))], []))], 1, 6)
def cu1534 : List sxCu := []
set_option maxRecDepth 1000000 in
theorem cv1534 {gh : sxGh} (hg : sxGd sxKw gh) : sxCtV sxKw gh ct1534 := sxMeB_ok (cts := [ct1474, ct1471, ct1533, ct1532, ct1530, ct1531]) (cuts := cu1534) (sp := []) 182 (by decide +kernel) hg (by decide) (by decide) (List.forall_mem_cons.mpr ⟨cv1474 hg, (List.forall_mem_cons.mpr ⟨cv1471 hg, (List.forall_mem_cons.mpr ⟨cv1533 hg, (List.forall_mem_cons.mpr ⟨cv1532 hg, (List.forall_mem_cons.mpr ⟨cv1530 hg, (List.forall_mem_cons.mpr ⟨cv1531 hg, (fun _ h => absurd h List.not_mem_nil)⟩)⟩)⟩)⟩)⟩)⟩)
/-- LotBeliefsModel.sets -/
def ct1537 : sxCt := (300, 2, (3, [(1, .negSucc 2147483647, .ofNat 2147483647), (2, .negSucc 2147483647, .ofNat 2147483647)], [], [(0, .inl 78), (1, .inr (false, (1, .ofNat 0))), (2, .inr (false, (2, .ofNat 0)))], [], [], []), [(78, 1), (80, 0)], [
  (5, [(1, .negSucc 2147483647, .ofNat 2147483647), (2, .negSucc 2147483647, .ofNat 2147483647), (3, .negSucc 0, .ofNat 4096), (4, .ofNat 0, .ofNat 1)], [(4, 3, .ofNat 1)], [], [.inr (false, (3, .ofNat 0))], [(78, (0, .ofNat 0), .inr (false, (4, .ofNat 0)))], [])], [], 0, 0)
def cu1537 : List sxCu := [
  (51, (8, [(1, .ofNat 0, .ofNat 51), (2, .ofNat 0, .ofNat 3), (3, .ofNat 0, .ofNat 4096), (4, .negSucc 0, .ofNat 4095), (5, .ofNat 0, .ofNat 4096), (6, .negSucc 0, .ofNat 4095), (7, .ofNat 0, .ofNat 4096)], [(3, 7, .ofNat 0), (4, 7, .negSucc 0), (5, 3, .ofNat 0), (5, 7, .ofNat 0), (6, 7, .negSucc 0)], [(0, .inl 78), (1, .inr (false, (1, .ofNat 0))), (2, .inr (false, (2, .ofNat 0))), (3, .inr (false, (3, .ofNat 0))), (4, .inr (false, (4, .ofNat 0))), (5, .inr (false, (5, .ofNat 0))), (6, .inr (false, (6, .ofNat 0))), (7, .inr (false, (7, .ofNat 0)))], [], [(78, (0, .ofNat 0), .inr (false, (0, .ofNat 0)))], []), ((0, 7, .ofNat 4096), (0, 0, .ofNat 0), (0, 0, .ofNat 0)), 0, 0)]
set_option maxRecDepth 1000000 in
theorem cv1537 {gh : sxGh} (hg : sxGd sxKw gh) : sxCtV sxKw gh ct1537 := sxMeB_ok (cts := [ct88, ct1146, ct1500]) (cuts := cu1537) (sp := []) 560 (by decide +kernel) hg (by decide) (by decide) (List.forall_mem_cons.mpr ⟨cv88 hg, (List.forall_mem_cons.mpr ⟨cv1146 hg, (List.forall_mem_cons.mpr ⟨cv1500 hg, (fun _ h => absurd h List.not_mem_nil)⟩)⟩)⟩)
/-- LotBeliefsModel.sets -/
def ct1538 : sxCt := (300, 2, (3, [(1, .ofNat 0, .ofNat 51), (2, .ofNat 0, .ofNat 3)], [], [(0, .inl 78), (1, .inr (false, (1, .ofNat 0))), (2, .inr (false, (2, .ofNat 0)))], [], [], []), [(78, 1)], [
  (4, [(1, .ofNat 0, .ofNat 51), (2, .ofNat 0, .ofNat 3), (3, .negSucc 0, .ofNat 4096)], [], [], [.inr (false, (3, .ofNat 0))], [(78, (0, .ofNat 0), .inr (false, (0, .ofNat 0)))], [])], [], 0, 0)
def cu1538 : List sxCu := [
  (51, (8, [(1, .ofNat 0, .ofNat 51), (2, .ofNat 0, .ofNat 3), (3, .ofNat 0, .ofNat 4096), (4, .negSucc 0, .ofNat 4095), (5, .ofNat 0, .ofNat 4096), (6, .negSucc 0, .ofNat 4095), (7, .ofNat 0, .ofNat 4096)], [(3, 7, .ofNat 0), (4, 7, .negSucc 0), (5, 3, .ofNat 0), (5, 7, .ofNat 0), (6, 7, .negSucc 0)], [(0, .inl 78), (1, .inr (false, (1, .ofNat 0))), (2, .inr (false, (2, .ofNat 0))), (3, .inr (false, (3, .ofNat 0))), (4, .inr (false, (4, .ofNat 0))), (5, .inr (false, (5, .ofNat 0))), (6, .inr (false, (6, .ofNat 0))), (7, .inr (false, (7, .ofNat 0)))], [], [(78, (0, .ofNat 0), .inr (false, (0, .ofNat 0)))], []), ((0, 7, .ofNat 4096), (0, 0, .ofNat 0), (0, 0, .ofNat 0)), 0, 0)]
set_option maxRecDepth 1000000 in
theorem cv1538 {gh : sxGh} (hg : sxGd sxKw gh) : sxCtV sxKw gh ct1538 := sxMeB_ok (cts := [ct88, ct1146, ct1500]) (cuts := cu1538) (sp := []) 426 (by decide +kernel) hg (by decide) (by decide) (List.forall_mem_cons.mpr ⟨cv88 hg, (List.forall_mem_cons.mpr ⟨cv1146 hg, (List.forall_mem_cons.mpr ⟨cv1500 hg, (fun _ h => absurd h List.not_mem_nil)⟩)⟩)⟩)
/-- LotBeliefs.Survey.bestEnd -/
def ct1539 : sxCt := (78, 1, (2, [(1, .ofNat 0, .ofNat 4095)], [], [(0, .inl 74), (1, .inr (false, (1, .ofNat 0)))], [], [], []), [], [
  (3, [(1, .ofNat 0, .ofNat 4095), (2, .ofNat 0, .ofNat 127)], [], [], [.inr (false, (2, .ofNat 0))], [], [])], [], 0, 0)
def cu1539 : List sxCu := [
  (7, (5, [(1, .ofNat 0, .ofNat 4095), (2, .ofNat 0, .ofNat 127), (3, .negSucc 0, .ofNat 63), (4, .ofNat 0, .ofNat 128)], [(2, 4, .ofNat 0)], [(0, .inl 74), (1, .inr (false, (1, .ofNat 0))), (2, .inr (false, (2, .ofNat 0))), (3, .inr (false, (3, .ofNat 0))), (4, .inr (false, (4, .ofNat 0)))], [], [], []), ((0, 4, .ofNat 128), (0, 0, .ofNat 0), (0, 0, .ofNat 0)), 0, 0)]
set_option maxRecDepth 1000000 in
theorem cv1539 {gh : sxGh} (hg : sxGd sxKw gh) : sxCtV sxKw gh ct1539 := sxMeB_ok (cts := [ct74]) (cuts := cu1539) (sp := []) 122 (by decide +kernel) hg (by decide) (by decide) (List.forall_mem_cons.mpr ⟨cv74 hg, (fun _ h => absurd h List.not_mem_nil)⟩)
/-- LotBeliefs.takeOrder -/
def ct1540 : sxCt := (182, 1, (2, [(1, .negSucc 9223372036854775807, .ofNat 9223372036854775807)], [], [(0, .inl 0), (1, .inr (true, (1, .ofNat 0)))], [], [], []), [(28, 0)], [
  (2, [(1, .negSucc 9223372036854775807, .ofNat 9223372036854775807)], [], [], [], [], [])], [], 0, 0)
def cu1540 : List sxCu := [
  (2, (3, [(1, .negSucc 9223372036854775807, .ofNat 9223372036854775807), (2, .ofNat 0, .ofNat 12)], [], [(0, .inl 0), (1, .inr (true, (1, .ofNat 0))), (3, .inr (false, (2, .ofNat 0)))], [], [], []), ((0, 2, .ofNat 12), (0, 0, .ofNat 0), (0, 0, .ofNat 0)), 0, 0)]
set_option maxRecDepth 1000000 in
theorem cv1540 {gh : sxGh} (hg : sxGd sxKw gh) : sxCtV sxKw gh ct1540 := sxMeB_ok (cts := []) (cuts := cu1540) (sp := []) 123 (by decide +kernel) hg (by decide) (by decide) (fun _ h => absurd h List.not_mem_nil)
/-- LotBeliefs.Survey.bestEnd -/
def ct1541 : sxCt := (78, 1, (2, [(1, .ofNat 0, .ofNat 4095)], [], [(0, .inl 70), (1, .inr (false, (1, .ofNat 0)))], [], [], []), [], [
  (3, [(1, .ofNat 0, .ofNat 4095), (2, .ofNat 0, .ofNat 127)], [], [], [.inr (false, (2, .ofNat 0))], [], [])], [], 0, 0)
def cu1541 : List sxCu := [
  (7, (5, [(1, .ofNat 0, .ofNat 4095), (2, .ofNat 0, .ofNat 127), (3, .negSucc 0, .ofNat 63), (4, .ofNat 0, .ofNat 128)], [(2, 4, .ofNat 0)], [(0, .inl 70), (1, .inr (false, (1, .ofNat 0))), (2, .inr (false, (2, .ofNat 0))), (3, .inr (false, (3, .ofNat 0))), (4, .inr (false, (4, .ofNat 0)))], [], [], []), ((0, 4, .ofNat 128), (0, 0, .ofNat 0), (0, 0, .ofNat 0)), 0, 0)]
set_option maxRecDepth 1000000 in
theorem cv1541 {gh : sxGh} (hg : sxGd sxKw gh) : sxCtV sxKw gh ct1541 := sxMeB_ok (cts := [ct74]) (cuts := cu1541) (sp := []) 122 (by decide +kernel) hg (by decide) (by decide) (List.forall_mem_cons.mpr ⟨cv74 hg, (fun _ h => absurd h List.not_mem_nil)⟩)
/-- LotBeliefs.Survey.bestEnd -/
def ct1542 : sxCt := (78, 1, (2, [(1, .ofNat 0, .ofNat 4095)], [], [(0, .inl 66), (1, .inr (false, (1, .ofNat 0)))], [], [], []), [], [
  (3, [(1, .ofNat 0, .ofNat 4095), (2, .ofNat 0, .ofNat 127)], [], [], [.inr (false, (2, .ofNat 0))], [], [])], [], 0, 0)
def cu1542 : List sxCu := [
  (7, (5, [(1, .ofNat 0, .ofNat 4095), (2, .ofNat 0, .ofNat 127), (3, .negSucc 0, .ofNat 63), (4, .ofNat 0, .ofNat 128)], [(2, 4, .ofNat 0)], [(0, .inl 66), (1, .inr (false, (1, .ofNat 0))), (2, .inr (false, (2, .ofNat 0))), (3, .inr (false, (3, .ofNat 0))), (4, .inr (false, (4, .ofNat 0)))], [], [], []), ((0, 4, .ofNat 128), (0, 0, .ofNat 0), (0, 0, .ofNat 0)), 0, 0)]
set_option maxRecDepth 1000000 in
theorem cv1542 {gh : sxGh} (hg : sxGd sxKw gh) : sxCtV sxKw gh ct1542 := sxMeB_ok (cts := [ct74]) (cuts := cu1542) (sp := []) 122 (by decide +kernel) hg (by decide) (by decide) (List.forall_mem_cons.mpr ⟨cv74 hg, (fun _ h => absurd h List.not_mem_nil)⟩)
/-- LotBeliefs.Survey.bestEnd -/
def ct1543 : sxCt := (78, 1, (2, [(1, .ofNat 0, .ofNat 4095)], [], [(0, .inl 62), (1, .inr (false, (1, .ofNat 0)))], [], [], []), [], [
  (3, [(1, .ofNat 0, .ofNat 4095), (2, .ofNat 0, .ofNat 127)], [], [], [.inr (false, (2, .ofNat 0))], [], [])], [], 0, 0)
def cu1543 : List sxCu := [
  (7, (5, [(1, .ofNat 0, .ofNat 4095), (2, .ofNat 0, .ofNat 127), (3, .negSucc 0, .ofNat 63), (4, .ofNat 0, .ofNat 128)], [(2, 4, .ofNat 0)], [(0, .inl 62), (1, .inr (false, (1, .ofNat 0))), (2, .inr (false, (2, .ofNat 0))), (3, .inr (false, (3, .ofNat 0))), (4, .inr (false, (4, .ofNat 0)))], [], [], []), ((0, 4, .ofNat 128), (0, 0, .ofNat 0), (0, 0, .ofNat 0)), 0, 0)]
set_option maxRecDepth 1000000 in
theorem cv1543 {gh : sxGh} (hg : sxGd sxKw gh) : sxCtV sxKw gh ct1543 := sxMeB_ok (cts := [ct74]) (cuts := cu1543) (sp := []) 122 (by decide +kernel) hg (by decide) (by decide) (List.forall_mem_cons.mpr ⟨cv74 hg, (fun _ h => absurd h List.not_mem_nil)⟩)
/-- LotBeliefs.Survey.bestEnd -/
def ct1544 : sxCt := (78, 1, (2, [(1, .ofNat 0, .ofNat 4095)], [], [(0, .inl 58), (1, .inr (false, (1, .ofNat 0)))], [], [], []), [], [
  (3, [(1, .ofNat 0, .ofNat 4095), (2, .ofNat 0, .ofNat 127)], [], [], [.inr (false, (2, .ofNat 0))], [], [])], [], 0, 0)
def cu1544 : List sxCu := [
  (7, (5, [(1, .ofNat 0, .ofNat 4095), (2, .ofNat 0, .ofNat 127), (3, .negSucc 0, .ofNat 63), (4, .ofNat 0, .ofNat 128)], [(2, 4, .ofNat 0)], [(0, .inl 58), (1, .inr (false, (1, .ofNat 0))), (2, .inr (false, (2, .ofNat 0))), (3, .inr (false, (3, .ofNat 0))), (4, .inr (false, (4, .ofNat 0)))], [], [], []), ((0, 4, .ofNat 128), (0, 0, .ofNat 0), (0, 0, .ofNat 0)), 0, 0)]
set_option maxRecDepth 1000000 in
theorem cv1544 {gh : sxGh} (hg : sxGd sxKw gh) : sxCtV sxKw gh ct1544 := sxMeB_ok (cts := [ct74]) (cuts := cu1544) (sp := []) 122 (by decide +kernel) hg (by decide) (by decide) (List.forall_mem_cons.mpr ⟨cv74 hg, (fun _ h => absurd h List.not_mem_nil)⟩)
/-- LotBeliefs.best -/
def ct1545 : sxCt := (136, 6, (1, [], [], [(0, .inl 0)], [], [], []), [(21, 0), (22, 0), (25, 0), (26, 0), (28, 0), (30, 0), (32, 1), (32, 2), (32, 3), (32, 4), (32, 9), (32, 11), (32, 12), (58, 2), (58, 3), (58, 6), (58, 7), (62, 2), (62, 3), (62, 6), (62, 7), (66, 2), (66, 3), (66, 6), (66, 7), (70, 2), (70, 3), (70, 6), (70, 7), (74, 2), (74, 3), (74, 6), (74, 7), (33000037, 0), (59000061, 0), (63000065, 0), (67000069, 0), (71000073, 0), (75000077, 0)], [
  (2, [(1, .ofNat 0, .ofNat 63)], [], [], [.inr (false, (1, .ofNat 0))], [], [])], [
  (2, (2, [(1, .negSucc 2147483647, .ofNat 2147483647)], [], [], [], [(30, (0, .ofNat 2), .inr (false, (1, .ofNat 0)))], []))], 1, 6)
def cu1545 : List sxCu := []
set_option maxRecDepth 1000000 in
theorem cv1545 {gh : sxGh} (hg : sxGd sxKw gh) : sxCtV sxKw gh ct1545 := sxMeB_ok (cts := [ct260, ct388, ct899, ct900, ct971, ct972, ct1043, ct1044, ct1045, ct1046, ct1047, ct1048, ct1049, ct1050, ct1051, ct1052, ct1053, ct1054, ct935, ct936, ct1007, ct1008, ct1539, ct1541, ct1542, ct1543, ct1544, ct1540, ct74]) (cuts := cu1545) (sp := []) 1078 (by decide +kernel) hg (by decide) (by decide) (List.forall_mem_cons.mpr ⟨cv260 hg, (List.forall_mem_cons.mpr ⟨cv388 hg, (List.forall_mem_cons.mpr ⟨cv899 hg, (List.forall_mem_cons.mpr ⟨cv900 hg, (List.forall_mem_cons.mpr ⟨cv971 hg, (List.forall_mem_cons.mpr ⟨cv972 hg, (List.forall_mem_cons.mpr ⟨cv1043 hg, (List.forall_mem_cons.mpr ⟨cv1044 hg, (List.forall_mem_cons.mpr ⟨cv1045 hg, (List.forall_mem_cons.mpr ⟨cv1046 hg, (List.forall_mem_cons.mpr ⟨cv1047 hg, (List.forall_mem_cons.mpr ⟨cv1048 hg, (List.forall_mem_cons.mpr ⟨cv1049 hg, (List.forall_mem_cons.mpr ⟨cv1050 hg, (List.forall_mem_cons.mpr ⟨cv1051 hg, (List.forall_mem_cons.mpr ⟨cv1052 hg, (List.forall_mem_cons.mpr ⟨cv1053 hg, (List.forall_mem_cons.mpr ⟨cv1054 hg, (List.forall_mem_cons.mpr ⟨cv935 hg, (List.forall_mem_cons.mpr ⟨cv936 hg, (List.forall_mem_cons.mpr ⟨cv1007 hg, (List.forall_mem_cons.mpr ⟨cv1008 hg, (List.forall_mem_cons.mpr ⟨cv1539 hg, (List.forall_mem_cons.mpr ⟨cv1541 hg, (List.forall_mem_cons.mpr ⟨cv1542 hg, (List.forall_mem_cons.mpr ⟨cv1543 hg, (List.forall_mem_cons.mpr ⟨cv1544 hg, (List.forall_mem_cons.mpr ⟨cv1540 hg, (List.forall_mem_cons.mpr ⟨cv74 hg, (fun _ h => absurd h List.not_mem_nil)⟩)⟩)⟩)⟩)⟩)⟩)⟩)⟩)⟩)⟩)⟩)⟩)⟩)⟩)⟩)⟩)⟩)⟩)⟩)⟩)⟩)⟩)⟩)⟩)⟩)⟩)⟩)⟩)⟩)
/-- LotBeliefs.Survey.heldInAll -/
def ct1549 : sxCt := (77, 1, (2, [(1, .ofNat 1, .ofNat 64)], [], [(0, .inl 74), (1, .inr (false, (1, .ofNat 0)))], [], [], []), [], [
  (3, [(1, .ofNat 1, .ofNat 64), (2, .negSucc 2147483647, .ofNat 2147483647)], [], [], [.inr (false, (2, .ofNat 0))], [], [])], [], 0, 0)
def cu1549 : List sxCu := [
  (4, (4, [(1, .ofNat 1, .ofNat 64), (2, .negSucc 2147483647, .ofNat 2147483647), (3, .ofNat 0, .ofNat 128)], [], [(0, .inl 74), (1, .inr (false, (1, .ofNat 0))), (2, .inr (false, (2, .ofNat 0))), (3, .inr (false, (3, .ofNat 0)))], [], [], []), ((0, 3, .ofNat 128), (0, 0, .ofNat 0), (0, 0, .ofNat 0)), 0, 0)]
set_option maxRecDepth 1000000 in
theorem cv1549 {gh : sxGh} (hg : sxGd sxKw gh) : sxCtV sxKw gh ct1549 := sxMeB_ok (cts := [ct72]) (cuts := cu1549) (sp := []) 86 (by decide +kernel) hg (by decide) (by decide) (List.forall_mem_cons.mpr ⟨cv72 hg, (fun _ h => absurd h List.not_mem_nil)⟩)
/-- LotBeliefs.Survey.heldInAll -/
def ct1551 : sxCt := (77, 1, (2, [(1, .ofNat 1, .ofNat 64)], [], [(0, .inl 70), (1, .inr (false, (1, .ofNat 0)))], [], [], []), [], [
  (3, [(1, .ofNat 1, .ofNat 64), (2, .negSucc 2147483647, .ofNat 2147483647)], [], [], [.inr (false, (2, .ofNat 0))], [], [])], [], 0, 0)
def cu1551 : List sxCu := [
  (4, (4, [(1, .ofNat 1, .ofNat 64), (2, .negSucc 2147483647, .ofNat 2147483647), (3, .ofNat 0, .ofNat 128)], [], [(0, .inl 70), (1, .inr (false, (1, .ofNat 0))), (2, .inr (false, (2, .ofNat 0))), (3, .inr (false, (3, .ofNat 0)))], [], [], []), ((0, 3, .ofNat 128), (0, 0, .ofNat 0), (0, 0, .ofNat 0)), 0, 0)]
set_option maxRecDepth 1000000 in
theorem cv1551 {gh : sxGh} (hg : sxGd sxKw gh) : sxCtV sxKw gh ct1551 := sxMeB_ok (cts := [ct72]) (cuts := cu1551) (sp := []) 86 (by decide +kernel) hg (by decide) (by decide) (List.forall_mem_cons.mpr ⟨cv72 hg, (fun _ h => absurd h List.not_mem_nil)⟩)
/-- LotBeliefs.Survey.heldInAll -/
def ct1552 : sxCt := (77, 1, (2, [(1, .ofNat 1, .ofNat 64)], [], [(0, .inl 66), (1, .inr (false, (1, .ofNat 0)))], [], [], []), [], [
  (3, [(1, .ofNat 1, .ofNat 64), (2, .negSucc 2147483647, .ofNat 2147483647)], [], [], [.inr (false, (2, .ofNat 0))], [], [])], [], 0, 0)
def cu1552 : List sxCu := [
  (4, (4, [(1, .ofNat 1, .ofNat 64), (2, .negSucc 2147483647, .ofNat 2147483647), (3, .ofNat 0, .ofNat 128)], [], [(0, .inl 66), (1, .inr (false, (1, .ofNat 0))), (2, .inr (false, (2, .ofNat 0))), (3, .inr (false, (3, .ofNat 0)))], [], [], []), ((0, 3, .ofNat 128), (0, 0, .ofNat 0), (0, 0, .ofNat 0)), 0, 0)]
set_option maxRecDepth 1000000 in
theorem cv1552 {gh : sxGh} (hg : sxGd sxKw gh) : sxCtV sxKw gh ct1552 := sxMeB_ok (cts := [ct72]) (cuts := cu1552) (sp := []) 86 (by decide +kernel) hg (by decide) (by decide) (List.forall_mem_cons.mpr ⟨cv72 hg, (fun _ h => absurd h List.not_mem_nil)⟩)
/-- LotBeliefs.Survey.heldInAll -/
def ct1553 : sxCt := (77, 1, (2, [(1, .ofNat 1, .ofNat 64)], [], [(0, .inl 62), (1, .inr (false, (1, .ofNat 0)))], [], [], []), [], [
  (3, [(1, .ofNat 1, .ofNat 64), (2, .negSucc 2147483647, .ofNat 2147483647)], [], [], [.inr (false, (2, .ofNat 0))], [], [])], [], 0, 0)
def cu1553 : List sxCu := [
  (4, (4, [(1, .ofNat 1, .ofNat 64), (2, .negSucc 2147483647, .ofNat 2147483647), (3, .ofNat 0, .ofNat 128)], [], [(0, .inl 62), (1, .inr (false, (1, .ofNat 0))), (2, .inr (false, (2, .ofNat 0))), (3, .inr (false, (3, .ofNat 0)))], [], [], []), ((0, 3, .ofNat 128), (0, 0, .ofNat 0), (0, 0, .ofNat 0)), 0, 0)]
set_option maxRecDepth 1000000 in
theorem cv1553 {gh : sxGh} (hg : sxGd sxKw gh) : sxCtV sxKw gh ct1553 := sxMeB_ok (cts := [ct72]) (cuts := cu1553) (sp := []) 86 (by decide +kernel) hg (by decide) (by decide) (List.forall_mem_cons.mpr ⟨cv72 hg, (fun _ h => absurd h List.not_mem_nil)⟩)
/-- LotBeliefs.Survey.heldInAll -/
def ct1554 : sxCt := (77, 1, (2, [(1, .ofNat 1, .ofNat 64)], [], [(0, .inl 58), (1, .inr (false, (1, .ofNat 0)))], [], [], []), [], [
  (3, [(1, .ofNat 1, .ofNat 64), (2, .negSucc 2147483647, .ofNat 2147483647)], [], [], [.inr (false, (2, .ofNat 0))], [], [])], [], 0, 0)
def cu1554 : List sxCu := [
  (4, (4, [(1, .ofNat 1, .ofNat 64), (2, .negSucc 2147483647, .ofNat 2147483647), (3, .ofNat 0, .ofNat 128)], [], [(0, .inl 58), (1, .inr (false, (1, .ofNat 0))), (2, .inr (false, (2, .ofNat 0))), (3, .inr (false, (3, .ofNat 0)))], [], [], []), ((0, 3, .ofNat 128), (0, 0, .ofNat 0), (0, 0, .ofNat 0)), 0, 0)]
set_option maxRecDepth 1000000 in
theorem cv1554 {gh : sxGh} (hg : sxGd sxKw gh) : sxCtV sxKw gh ct1554 := sxMeB_ok (cts := [ct72]) (cuts := cu1554) (sp := []) 86 (by decide +kernel) hg (by decide) (by decide) (List.forall_mem_cons.mpr ⟨cv72 hg, (fun _ h => absurd h List.not_mem_nil)⟩)
/-- LotBeliefs.Survey.never -/
def ct1555 : sxCt := (76, 0, (2, [(1, .ofNat 0, .ofNat 7)], [], [(0, .inl 74), (1, .inr (false, (1, .ofNat 0)))], [], [], []), [], [
  (3, [(1, .ofNat 0, .ofNat 7), (2, .ofNat 0, .ofNat 127)], [], [], [.inr (false, (2, .ofNat 0))], [], [])], [], 0, 0)
def cu1555 : List sxCu := [
  (8, (4, [(1, .ofNat 0, .ofNat 7), (2, .ofNat 0, .ofNat 127), (3, .ofNat 0, .ofNat 128)], [], [(0, .inl 74), (1, .inr (false, (1, .ofNat 0))), (2, .inr (false, (2, .ofNat 0))), (3, .inr (false, (3, .ofNat 0)))], [], [], []), ((0, 3, .ofNat 128), (0, 0, .ofNat 0), (0, 0, .ofNat 0)), 0, 0)]
set_option maxRecDepth 1000000 in
theorem cv1555 {gh : sxGh} (hg : sxGd sxKw gh) : sxCtV sxKw gh ct1555 := sxMeB_ok (cts := []) (cuts := cu1555) (sp := []) 90 (by decide +kernel) hg (by decide) (by decide) (fun _ h => absurd h List.not_mem_nil)
/-- LotBeliefs.Survey.always -/
def ct1556 : sxCt := (75, 0, (2, [(1, .ofNat 0, .ofNat 7)], [], [(0, .inl 74), (1, .inr (false, (1, .ofNat 0)))], [], [], []), [], [
  (3, [(1, .ofNat 0, .ofNat 7), (2, .ofNat 0, .ofNat 127)], [], [], [.inr (false, (2, .ofNat 0))], [], [])], [], 0, 0)
def cu1556 : List sxCu := [
  (8, (4, [(1, .ofNat 0, .ofNat 7), (2, .ofNat 0, .ofNat 127), (3, .ofNat 0, .ofNat 128)], [], [(0, .inl 74), (1, .inr (false, (1, .ofNat 0))), (2, .inr (false, (2, .ofNat 0))), (3, .inr (false, (3, .ofNat 0)))], [], [], []), ((0, 3, .ofNat 128), (0, 0, .ofNat 0), (0, 0, .ofNat 0)), 0, 0)]
set_option maxRecDepth 1000000 in
theorem cv1556 {gh : sxGh} (hg : sxGd sxKw gh) : sxCtV sxKw gh ct1556 := sxMeB_ok (cts := []) (cuts := cu1556) (sp := []) 88 (by decide +kernel) hg (by decide) (by decide) (fun _ h => absurd h List.not_mem_nil)
/-- LotBeliefs.Survey.unlike -/
def ct1557 : sxCt := (74, 0, (1, [], [], [(0, .inl 74)], [], [], []), [], [
  (2, [(1, .ofNat 0, .ofNat 128)], [], [], [.inr (false, (1, .ofNat 0))], [], [])], [], 0, 0)
def cu1557 : List sxCu := [
  (4, (3, [(1, .ofNat 0, .ofNat 128), (2, .ofNat 0, .ofNat 128)], [(1, 2, .ofNat 0)], [(0, .inl 74), (1, .inr (false, (1, .ofNat 0))), (2, .inr (false, (2, .ofNat 0)))], [], [], []), ((0, 2, .ofNat 128), (0, 0, .ofNat 0), (0, 0, .ofNat 0)), 0, 0)]
set_option maxRecDepth 1000000 in
theorem cv1557 {gh : sxGh} (hg : sxGd sxKw gh) : sxCtV sxKw gh ct1557 := sxMeB_ok (cts := []) (cuts := cu1557) (sp := []) 81 (by decide +kernel) hg (by decide) (by decide) (fun _ h => absurd h List.not_mem_nil)
/-- LotBeliefs.Survey.never -/
def ct1558 : sxCt := (76, 0, (2, [(1, .ofNat 0, .ofNat 7)], [], [(0, .inl 70), (1, .inr (false, (1, .ofNat 0)))], [], [], []), [], [
  (3, [(1, .ofNat 0, .ofNat 7), (2, .ofNat 0, .ofNat 127)], [], [], [.inr (false, (2, .ofNat 0))], [], [])], [], 0, 0)
def cu1558 : List sxCu := [
  (8, (4, [(1, .ofNat 0, .ofNat 7), (2, .ofNat 0, .ofNat 127), (3, .ofNat 0, .ofNat 128)], [], [(0, .inl 70), (1, .inr (false, (1, .ofNat 0))), (2, .inr (false, (2, .ofNat 0))), (3, .inr (false, (3, .ofNat 0)))], [], [], []), ((0, 3, .ofNat 128), (0, 0, .ofNat 0), (0, 0, .ofNat 0)), 0, 0)]
set_option maxRecDepth 1000000 in
theorem cv1558 {gh : sxGh} (hg : sxGd sxKw gh) : sxCtV sxKw gh ct1558 := sxMeB_ok (cts := []) (cuts := cu1558) (sp := []) 90 (by decide +kernel) hg (by decide) (by decide) (fun _ h => absurd h List.not_mem_nil)
/-- LotBeliefs.Survey.always -/
def ct1559 : sxCt := (75, 0, (2, [(1, .ofNat 0, .ofNat 7)], [], [(0, .inl 70), (1, .inr (false, (1, .ofNat 0)))], [], [], []), [], [
  (3, [(1, .ofNat 0, .ofNat 7), (2, .ofNat 0, .ofNat 127)], [], [], [.inr (false, (2, .ofNat 0))], [], [])], [], 0, 0)
def cu1559 : List sxCu := [
  (8, (4, [(1, .ofNat 0, .ofNat 7), (2, .ofNat 0, .ofNat 127), (3, .ofNat 0, .ofNat 128)], [], [(0, .inl 70), (1, .inr (false, (1, .ofNat 0))), (2, .inr (false, (2, .ofNat 0))), (3, .inr (false, (3, .ofNat 0)))], [], [], []), ((0, 3, .ofNat 128), (0, 0, .ofNat 0), (0, 0, .ofNat 0)), 0, 0)]
set_option maxRecDepth 1000000 in
theorem cv1559 {gh : sxGh} (hg : sxGd sxKw gh) : sxCtV sxKw gh ct1559 := sxMeB_ok (cts := []) (cuts := cu1559) (sp := []) 88 (by decide +kernel) hg (by decide) (by decide) (fun _ h => absurd h List.not_mem_nil)
/-- LotBeliefs.Survey.unlike -/
def ct1560 : sxCt := (74, 0, (1, [], [], [(0, .inl 70)], [], [], []), [], [
  (2, [(1, .ofNat 0, .ofNat 128)], [], [], [.inr (false, (1, .ofNat 0))], [], [])], [], 0, 0)
def cu1560 : List sxCu := [
  (4, (3, [(1, .ofNat 0, .ofNat 128), (2, .ofNat 0, .ofNat 128)], [(1, 2, .ofNat 0)], [(0, .inl 70), (1, .inr (false, (1, .ofNat 0))), (2, .inr (false, (2, .ofNat 0)))], [], [], []), ((0, 2, .ofNat 128), (0, 0, .ofNat 0), (0, 0, .ofNat 0)), 0, 0)]
set_option maxRecDepth 1000000 in
theorem cv1560 {gh : sxGh} (hg : sxGd sxKw gh) : sxCtV sxKw gh ct1560 := sxMeB_ok (cts := []) (cuts := cu1560) (sp := []) 81 (by decide +kernel) hg (by decide) (by decide) (fun _ h => absurd h List.not_mem_nil)
/-- LotBeliefs.Survey.never -/
def ct1561 : sxCt := (76, 0, (2, [(1, .ofNat 0, .ofNat 7)], [], [(0, .inl 66), (1, .inr (false, (1, .ofNat 0)))], [], [], []), [], [
  (3, [(1, .ofNat 0, .ofNat 7), (2, .ofNat 0, .ofNat 127)], [], [], [.inr (false, (2, .ofNat 0))], [], [])], [], 0, 0)
def cu1561 : List sxCu := [
  (8, (4, [(1, .ofNat 0, .ofNat 7), (2, .ofNat 0, .ofNat 127), (3, .ofNat 0, .ofNat 128)], [], [(0, .inl 66), (1, .inr (false, (1, .ofNat 0))), (2, .inr (false, (2, .ofNat 0))), (3, .inr (false, (3, .ofNat 0)))], [], [], []), ((0, 3, .ofNat 128), (0, 0, .ofNat 0), (0, 0, .ofNat 0)), 0, 0)]
set_option maxRecDepth 1000000 in
theorem cv1561 {gh : sxGh} (hg : sxGd sxKw gh) : sxCtV sxKw gh ct1561 := sxMeB_ok (cts := []) (cuts := cu1561) (sp := []) 90 (by decide +kernel) hg (by decide) (by decide) (fun _ h => absurd h List.not_mem_nil)
/-- LotBeliefs.Survey.always -/
def ct1562 : sxCt := (75, 0, (2, [(1, .ofNat 0, .ofNat 7)], [], [(0, .inl 66), (1, .inr (false, (1, .ofNat 0)))], [], [], []), [], [
  (3, [(1, .ofNat 0, .ofNat 7), (2, .ofNat 0, .ofNat 127)], [], [], [.inr (false, (2, .ofNat 0))], [], [])], [], 0, 0)
def cu1562 : List sxCu := [
  (8, (4, [(1, .ofNat 0, .ofNat 7), (2, .ofNat 0, .ofNat 127), (3, .ofNat 0, .ofNat 128)], [], [(0, .inl 66), (1, .inr (false, (1, .ofNat 0))), (2, .inr (false, (2, .ofNat 0))), (3, .inr (false, (3, .ofNat 0)))], [], [], []), ((0, 3, .ofNat 128), (0, 0, .ofNat 0), (0, 0, .ofNat 0)), 0, 0)]
set_option maxRecDepth 1000000 in
theorem cv1562 {gh : sxGh} (hg : sxGd sxKw gh) : sxCtV sxKw gh ct1562 := sxMeB_ok (cts := []) (cuts := cu1562) (sp := []) 88 (by decide +kernel) hg (by decide) (by decide) (fun _ h => absurd h List.not_mem_nil)
/-- LotBeliefs.Survey.unlike -/
def ct1563 : sxCt := (74, 0, (1, [], [], [(0, .inl 66)], [], [], []), [], [
  (2, [(1, .ofNat 0, .ofNat 128)], [], [], [.inr (false, (1, .ofNat 0))], [], [])], [], 0, 0)
def cu1563 : List sxCu := [
  (4, (3, [(1, .ofNat 0, .ofNat 128), (2, .ofNat 0, .ofNat 128)], [(1, 2, .ofNat 0)], [(0, .inl 66), (1, .inr (false, (1, .ofNat 0))), (2, .inr (false, (2, .ofNat 0)))], [], [], []), ((0, 2, .ofNat 128), (0, 0, .ofNat 0), (0, 0, .ofNat 0)), 0, 0)]
set_option maxRecDepth 1000000 in
theorem cv1563 {gh : sxGh} (hg : sxGd sxKw gh) : sxCtV sxKw gh ct1563 := sxMeB_ok (cts := []) (cuts := cu1563) (sp := []) 81 (by decide +kernel) hg (by decide) (by decide) (fun _ h => absurd h List.not_mem_nil)
/-- LotBeliefs.Survey.never -/
def ct1564 : sxCt := (76, 0, (2, [(1, .ofNat 0, .ofNat 7)], [], [(0, .inl 62), (1, .inr (false, (1, .ofNat 0)))], [], [], []), [], [
  (3, [(1, .ofNat 0, .ofNat 7), (2, .ofNat 0, .ofNat 127)], [], [], [.inr (false, (2, .ofNat 0))], [], [])], [], 0, 0)
def cu1564 : List sxCu := [
  (8, (4, [(1, .ofNat 0, .ofNat 7), (2, .ofNat 0, .ofNat 127), (3, .ofNat 0, .ofNat 128)], [], [(0, .inl 62), (1, .inr (false, (1, .ofNat 0))), (2, .inr (false, (2, .ofNat 0))), (3, .inr (false, (3, .ofNat 0)))], [], [], []), ((0, 3, .ofNat 128), (0, 0, .ofNat 0), (0, 0, .ofNat 0)), 0, 0)]
set_option maxRecDepth 1000000 in
theorem cv1564 {gh : sxGh} (hg : sxGd sxKw gh) : sxCtV sxKw gh ct1564 := sxMeB_ok (cts := []) (cuts := cu1564) (sp := []) 90 (by decide +kernel) hg (by decide) (by decide) (fun _ h => absurd h List.not_mem_nil)
/-- LotBeliefs.Survey.always -/
def ct1565 : sxCt := (75, 0, (2, [(1, .ofNat 0, .ofNat 7)], [], [(0, .inl 62), (1, .inr (false, (1, .ofNat 0)))], [], [], []), [], [
  (3, [(1, .ofNat 0, .ofNat 7), (2, .ofNat 0, .ofNat 127)], [], [], [.inr (false, (2, .ofNat 0))], [], [])], [], 0, 0)
def cu1565 : List sxCu := [
  (8, (4, [(1, .ofNat 0, .ofNat 7), (2, .ofNat 0, .ofNat 127), (3, .ofNat 0, .ofNat 128)], [], [(0, .inl 62), (1, .inr (false, (1, .ofNat 0))), (2, .inr (false, (2, .ofNat 0))), (3, .inr (false, (3, .ofNat 0)))], [], [], []), ((0, 3, .ofNat 128), (0, 0, .ofNat 0), (0, 0, .ofNat 0)), 0, 0)]
set_option maxRecDepth 1000000 in
theorem cv1565 {gh : sxGh} (hg : sxGd sxKw gh) : sxCtV sxKw gh ct1565 := sxMeB_ok (cts := []) (cuts := cu1565) (sp := []) 88 (by decide +kernel) hg (by decide) (by decide) (fun _ h => absurd h List.not_mem_nil)
/-- LotBeliefs.Survey.unlike -/
def ct1566 : sxCt := (74, 0, (1, [], [], [(0, .inl 62)], [], [], []), [], [
  (2, [(1, .ofNat 0, .ofNat 128)], [], [], [.inr (false, (1, .ofNat 0))], [], [])], [], 0, 0)
def cu1566 : List sxCu := [
  (4, (3, [(1, .ofNat 0, .ofNat 128), (2, .ofNat 0, .ofNat 128)], [(1, 2, .ofNat 0)], [(0, .inl 62), (1, .inr (false, (1, .ofNat 0))), (2, .inr (false, (2, .ofNat 0)))], [], [], []), ((0, 2, .ofNat 128), (0, 0, .ofNat 0), (0, 0, .ofNat 0)), 0, 0)]
set_option maxRecDepth 1000000 in
theorem cv1566 {gh : sxGh} (hg : sxGd sxKw gh) : sxCtV sxKw gh ct1566 := sxMeB_ok (cts := []) (cuts := cu1566) (sp := []) 81 (by decide +kernel) hg (by decide) (by decide) (fun _ h => absurd h List.not_mem_nil)
/-- LotBeliefs.Survey.never -/
def ct1567 : sxCt := (76, 0, (2, [(1, .ofNat 0, .ofNat 7)], [], [(0, .inl 58), (1, .inr (false, (1, .ofNat 0)))], [], [], []), [], [
  (3, [(1, .ofNat 0, .ofNat 7), (2, .ofNat 0, .ofNat 127)], [], [], [.inr (false, (2, .ofNat 0))], [], [])], [], 0, 0)
def cu1567 : List sxCu := [
  (8, (4, [(1, .ofNat 0, .ofNat 7), (2, .ofNat 0, .ofNat 127), (3, .ofNat 0, .ofNat 128)], [], [(0, .inl 58), (1, .inr (false, (1, .ofNat 0))), (2, .inr (false, (2, .ofNat 0))), (3, .inr (false, (3, .ofNat 0)))], [], [], []), ((0, 3, .ofNat 128), (0, 0, .ofNat 0), (0, 0, .ofNat 0)), 0, 0)]
set_option maxRecDepth 1000000 in
theorem cv1567 {gh : sxGh} (hg : sxGd sxKw gh) : sxCtV sxKw gh ct1567 := sxMeB_ok (cts := []) (cuts := cu1567) (sp := []) 90 (by decide +kernel) hg (by decide) (by decide) (fun _ h => absurd h List.not_mem_nil)
/-- LotBeliefs.Survey.always -/
def ct1568 : sxCt := (75, 0, (2, [(1, .ofNat 0, .ofNat 7)], [], [(0, .inl 58), (1, .inr (false, (1, .ofNat 0)))], [], [], []), [], [
  (3, [(1, .ofNat 0, .ofNat 7), (2, .ofNat 0, .ofNat 127)], [], [], [.inr (false, (2, .ofNat 0))], [], [])], [], 0, 0)
def cu1568 : List sxCu := [
  (8, (4, [(1, .ofNat 0, .ofNat 7), (2, .ofNat 0, .ofNat 127), (3, .ofNat 0, .ofNat 128)], [], [(0, .inl 58), (1, .inr (false, (1, .ofNat 0))), (2, .inr (false, (2, .ofNat 0))), (3, .inr (false, (3, .ofNat 0)))], [], [], []), ((0, 3, .ofNat 128), (0, 0, .ofNat 0), (0, 0, .ofNat 0)), 0, 0)]
set_option maxRecDepth 1000000 in
theorem cv1568 {gh : sxGh} (hg : sxGd sxKw gh) : sxCtV sxKw gh ct1568 := sxMeB_ok (cts := []) (cuts := cu1568) (sp := []) 88 (by decide +kernel) hg (by decide) (by decide) (fun _ h => absurd h List.not_mem_nil)
/-- LotBeliefs.Survey.unlike -/
def ct1569 : sxCt := (74, 0, (1, [], [], [(0, .inl 58)], [], [], []), [], [
  (2, [(1, .ofNat 0, .ofNat 128)], [], [], [.inr (false, (1, .ofNat 0))], [], [])], [], 0, 0)
def cu1569 : List sxCu := [
  (4, (3, [(1, .ofNat 0, .ofNat 128), (2, .ofNat 0, .ofNat 128)], [(1, 2, .ofNat 0)], [(0, .inl 58), (1, .inr (false, (1, .ofNat 0))), (2, .inr (false, (2, .ofNat 0)))], [], [], []), ((0, 2, .ofNat 128), (0, 0, .ofNat 0), (0, 0, .ofNat 0)), 0, 0)]
set_option maxRecDepth 1000000 in
theorem cv1569 {gh : sxGh} (hg : sxGd sxKw gh) : sxCtV sxKw gh ct1569 := sxMeB_ok (cts := []) (cuts := cu1569) (sp := []) 81 (by decide +kernel) hg (by decide) (by decide) (fun _ h => absurd h List.not_mem_nil)
/-- LotBeliefs.ends -/
def ct1570 : sxCt := (134, 6, (2, [(1, .negSucc 2147483647, .ofNat 2147483647)], [], [(0, .inl 0), (1, .inr (false, (1, .ofNat 0)))], [], [], []), [(21, 0), (22, 0), (25, 0), (26, 0), (30, 0), (32, 1), (32, 2), (32, 3), (32, 4), (32, 9), (32, 11), (32, 12), (58, 2), (58, 3), (58, 6), (58, 7), (62, 2), (62, 3), (62, 6), (62, 7), (66, 2), (66, 3), (66, 6), (66, 7), (70, 2), (70, 3), (70, 6), (70, 7), (74, 2), (74, 3), (74, 6), (74, 7), (33000037, 0), (59000061, 0), (63000065, 0), (67000069, 0), (71000073, 0), (75000077, 0)], [
  (3, [(1, .ofNat 0, .ofNat 2), (2, .ofNat 0, .ofNat 128)], [], [], [.inr (false, (2, .ofNat 0))], [], [])], [
  (1, (3, [(1, .negSucc 2147483647, .ofNat 2147483647), (2, .negSucc 2147483647, .ofNat 2147483647)], [], [], [], [(30, (0, .ofNat 1), .inr (false, (2, .ofNat 0)))], [])), 
  (2, (3, [(1, .ofNat 0, .ofNat 2), (2, .negSucc 2147483647, .ofNat 2147483647)], [], [], [], [(30, (0, .ofNat 2), .inr (false, (2, .ofNat 0)))], []))], 1, 6)
def cu1570 : List sxCu := []
set_option maxRecDepth 1000000 in
theorem cv1570 {gh : sxGh} (hg : sxGd sxKw gh) : sxCtV sxKw gh ct1570 := sxMeB_ok (cts := [ct1043, ct899, ct900, ct1044, ct1045, ct1046, ct1048, ct1049, ct1050, ct1052, ct1053, ct935, ct936, ct1051, ct1054, ct971, ct972, ct1047, ct1007, ct1008, ct1557, ct1560, ct1563, ct1566, ct1569, ct1556, ct1559, ct1562, ct1565, ct1568, ct1555, ct1558, ct1561, ct1564, ct1567]) (cuts := cu1570) (sp := []) 770 (by decide +kernel) hg (by decide) (by decide) (List.forall_mem_cons.mpr ⟨cv1043 hg, (List.forall_mem_cons.mpr ⟨cv899 hg, (List.forall_mem_cons.mpr ⟨cv900 hg, (List.forall_mem_cons.mpr ⟨cv1044 hg, (List.forall_mem_cons.mpr ⟨cv1045 hg, (List.forall_mem_cons.mpr ⟨cv1046 hg, (List.forall_mem_cons.mpr ⟨cv1048 hg, (List.forall_mem_cons.mpr ⟨cv1049 hg, (List.forall_mem_cons.mpr ⟨cv1050 hg, (List.forall_mem_cons.mpr ⟨cv1052 hg, (List.forall_mem_cons.mpr ⟨cv1053 hg, (List.forall_mem_cons.mpr ⟨cv935 hg, (List.forall_mem_cons.mpr ⟨cv936 hg, (List.forall_mem_cons.mpr ⟨cv1051 hg, (List.forall_mem_cons.mpr ⟨cv1054 hg, (List.forall_mem_cons.mpr ⟨cv971 hg, (List.forall_mem_cons.mpr ⟨cv972 hg, (List.forall_mem_cons.mpr ⟨cv1047 hg, (List.forall_mem_cons.mpr ⟨cv1007 hg, (List.forall_mem_cons.mpr ⟨cv1008 hg, (List.forall_mem_cons.mpr ⟨cv1557 hg, (List.forall_mem_cons.mpr ⟨cv1560 hg, (List.forall_mem_cons.mpr ⟨cv1563 hg, (List.forall_mem_cons.mpr ⟨cv1566 hg, (List.forall_mem_cons.mpr ⟨cv1569 hg, (List.forall_mem_cons.mpr ⟨cv1556 hg, (List.forall_mem_cons.mpr ⟨cv1559 hg, (List.forall_mem_cons.mpr ⟨cv1562 hg, (List.forall_mem_cons.mpr ⟨cv1565 hg, (List.forall_mem_cons.mpr ⟨cv1568 hg, (List.forall_mem_cons.mpr ⟨cv1555 hg, (List.forall_mem_cons.mpr ⟨cv1558 hg, (List.forall_mem_cons.mpr ⟨cv1561 hg, (List.forall_mem_cons.mpr ⟨cv1564 hg, (List.forall_mem_cons.mpr ⟨cv1567 hg, (fun _ h => absurd h List.not_mem_nil)⟩)⟩)⟩)⟩)⟩)⟩)⟩)⟩)⟩)⟩)⟩)⟩)⟩)⟩)⟩)⟩)⟩)⟩)⟩)⟩)⟩)⟩)⟩)⟩)⟩)⟩)⟩)⟩)⟩)⟩)⟩)⟩)⟩)⟩)⟩)
/-- LotBeliefs.touchy -/
def ct1573 : sxCt := (133, 6, (1, [], [], [(0, .inl 0)], [], [], []), [(21, 0), (22, 0), (25, 0), (26, 0), (31, 0), (32, 1), (32, 2), (32, 3), (32, 4), (32, 9), (32, 11), (32, 12), (33000037, 0)], [
  (6, [(1, .ofNat 0, .ofNat 11), (2, .ofNat 0, .ofNat 4), (3, .ofNat 0, .ofNat 63), (4, .ofNat 0, .ofNat 4095), (5, .negSucc 2147483647, .ofNat 2147483647)], [], [], [.inr (false, (1, .ofNat 0))], [(32, (0, .ofNat 2), .inr (false, (2, .ofNat 0))), (32, (0, .ofNat 3), .inr (false, (3, .ofNat 0))), (32, (0, .ofNat 8), .inr (false, (4, .ofNat 0))), (32, (0, .ofNat 11), .inr (false, (5, .ofNat 0)))], [])], [], 0, 0)
def cu1573 : List sxCu := [
  (21, (8, [(1, .ofNat 0, .ofNat 4095), (2, .ofNat 0, .ofNat 11), (3, .ofNat 0, .ofNat 11), (4, .ofNat 0, .ofNat 4), (5, .ofNat 0, .ofNat 63), (6, .ofNat 0, .ofNat 4095), (7, .negSucc 2147483647, .ofNat 2147483647)], [(2, 3, .ofNat 0)], [(0, .inl 0), (1, .inr (false, (1, .ofNat 0))), (2, .inr (false, (2, .ofNat 0))), (3, .inr (false, (3, .ofNat 0)))], [], [(0, (0, .ofNat 7), .inl 27), (0, (0, .ofNat 12), .inl 32), (27, (0, .ofNat 0), .inl 28), (27, (0, .ofNat 1), .inr (false, (4, .ofNat 0))), (27, (0, .ofNat 2), .inr (false, (5, .ofNat 0))), (32, (0, .ofNat 2), .inr (false, (4, .ofNat 0))), (32, (0, .ofNat 3), .inr (false, (5, .ofNat 0))), (32, (0, .ofNat 8), .inr (false, (6, .ofNat 0))), (32, (0, .ofNat 11), .inr (false, (7, .ofNat 0)))], []), ((0, 3, .ofNat 11), (0, 0, .ofNat 0), (0, 0, .ofNat 0)), 0, 0)]
set_option maxRecDepth 1000000 in
theorem cv1573 {gh : sxGh} (hg : sxGd sxKw gh) : sxCtV sxKw gh ct1573 := sxMeB_ok (cts := [ct386, ct390, ct387]) (cuts := cu1573) (sp := []) 685 (by decide +kernel) hg (by decide) (by decide) (List.forall_mem_cons.mpr ⟨cv386 hg, (List.forall_mem_cons.mpr ⟨cv390 hg, (List.forall_mem_cons.mpr ⟨cv387 hg, (fun _ h => absurd h List.not_mem_nil)⟩)⟩)⟩)
/-- LotBeliefs.Course.gone -/
def ct1575 : sxCt := (13, 0, (2, [(1, .ofNat 0, .ofNat 1)], [], [(0, .inl 32), (1, .inr (false, (1, .ofNat 0)))], [], [], []), [], [
  (3, [(1, .ofNat 0, .ofNat 1), (2, .ofNat 0, .ofNat 12)], [], [], [.inr (false, (2, .ofNat 0))], [], [])], [], 0, 0)
def cu1575 : List sxCu := [
  (4, (4, [(1, .ofNat 0, .ofNat 1), (2, .ofNat 0, .ofNat 12), (3, .ofNat 0, .ofNat 12)], [(2, 3, .ofNat 0)], [(0, .inl 32), (1, .inr (false, (1, .ofNat 0))), (2, .inr (false, (2, .ofNat 0))), (3, .inr (false, (3, .ofNat 0)))], [], [], []), ((0, 3, .ofNat 12), (0, 0, .ofNat 0), (0, 0, .ofNat 0)), 0, 0)]
set_option maxRecDepth 1000000 in
theorem cv1575 {gh : sxGh} (hg : sxGd sxKw gh) : sxCtV sxKw gh ct1575 := sxMeB_ok (cts := []) (cuts := cu1575) (sp := []) 129 (by decide +kernel) hg (by decide) (by decide) (fun _ h => absurd h List.not_mem_nil)
/-- LotBeliefs.year -/
def ct1576 : sxCt := (132, 6, (2, [(1, .negSucc 2147483647, .ofNat 2147483647)], [], [(0, .inl 0), (1, .inr (false, (1, .ofNat 0)))], [], [], []), [(21, 0), (22, 0), (25, 0), (26, 0), (30, 0), (32, 1), (32, 2), (32, 3), (32, 4), (32, 9), (32, 11), (32, 12), (33000037, 0)], [
  (7, [(1, .ofNat 0, .ofNat 5), (2, .negSucc 2147483647, .ofNat 2147483647), (3, .ofNat 0, .ofNat 4), (4, .ofNat 0, .ofNat 63), (5, .ofNat 0, .ofNat 4095), (6, .negSucc 2147483647, .ofNat 2147483647)], [], [], [.inr (false, (2, .ofNat 0))], [(32, (0, .ofNat 2), .inr (false, (3, .ofNat 0))), (32, (0, .ofNat 3), .inr (false, (4, .ofNat 0))), (32, (0, .ofNat 8), .inr (false, (5, .ofNat 0))), (32, (0, .ofNat 11), .inr (false, (6, .ofNat 0)))], [])], [
  (1, (3, [(1, .negSucc 2147483647, .ofNat 2147483647), (2, .negSucc 2147483647, .ofNat 2147483647)], [], [], [], [(30, (0, .ofNat 1), .inr (false, (2, .ofNat 0)))], []))], 1, 6)
def cu1576 : List sxCu := []
set_option maxRecDepth 1000000 in
theorem cv1576 {gh : sxGh} (hg : sxGd sxKw gh) : sxCtV sxKw gh ct1576 := sxMeB_ok (cts := [ct386, ct811, ct1575, ct260, ct388, ct542, ct543, ct84]) (cuts := cu1576) (sp := []) 462 (by decide +kernel) hg (by decide) (by decide) (List.forall_mem_cons.mpr ⟨cv386 hg, (List.forall_mem_cons.mpr ⟨cv811 hg, (List.forall_mem_cons.mpr ⟨cv1575 hg, (List.forall_mem_cons.mpr ⟨cv260 hg, (List.forall_mem_cons.mpr ⟨cv388 hg, (List.forall_mem_cons.mpr ⟨cv542 hg, (List.forall_mem_cons.mpr ⟨cv543 hg, (List.forall_mem_cons.mpr ⟨cv84 hg, (fun _ h => absurd h List.not_mem_nil)⟩)⟩)⟩)⟩)⟩)⟩)⟩)⟩)
/-- LotBeliefs.fate -/
def ct1579 : sxCt := (131, 6, (3, [(1, .negSucc 2147483647, .ofNat 2147483647), (2, .negSucc 2147483647, .ofNat 2147483647)], [], [(0, .inl 0), (1, .inr (false, (1, .ofNat 0))), (2, .inr (false, (2, .ofNat 0)))], [], [], []), [(21, 0), (22, 0), (25, 0), (26, 0), (30, 0), (32, 1), (32, 2), (32, 3), (32, 4), (32, 9), (32, 11), (32, 12), (33000037, 0)], [
  (8, [(1, .ofNat 0, .ofNat 11), (2, .ofNat 0, .ofNat 4), (3, .negSucc 50, .ofNat 52), (4, .ofNat 0, .ofNat 4), (5, .ofNat 0, .ofNat 63), (6, .ofNat 0, .ofNat 4095), (7, .negSucc 2147483647, .ofNat 2147483647)], [], [], [.inr (false, (3, .ofNat 0))], [(32, (0, .ofNat 2), .inr (false, (4, .ofNat 0))), (32, (0, .ofNat 3), .inr (false, (5, .ofNat 0))), (32, (0, .ofNat 8), .inr (false, (6, .ofNat 0))), (32, (0, .ofNat 11), .inr (false, (7, .ofNat 0)))], [])], [
  (0, (4, [(1, .negSucc 2147483647, .ofNat 2147483647), (2, .negSucc 2147483647, .ofNat 2147483647), (3, .negSucc 2147483647, .ofNat 2147483647)], [], [], [], [(30, (0, .ofNat 0), .inr (false, (3, .ofNat 0)))], [])), 
  (1, (4, [(1, .ofNat 0, .ofNat 11), (2, .negSucc 2147483647, .ofNat 2147483647), (3, .negSucc 2147483647, .ofNat 2147483647)], [], [], [], [(30, (0, .ofNat 1), .inr (false, (3, .ofNat 0)))], []))], 1, 6)
def cu1579 : List sxCu := []
set_option maxRecDepth 1000000 in
theorem cv1579 {gh : sxGh} (hg : sxGd sxKw gh) : sxCtV sxKw gh ct1579 := sxMeB_ok (cts := [ct386]) (cuts := cu1579) (sp := []) 771 (by decide +kernel) hg (by decide) (by decide) (List.forall_mem_cons.mpr ⟨cv386 hg, (fun _ h => absurd h List.not_mem_nil)⟩)
/-- LotBeliefsModel.world -/
def ct1583 : sxCt := (258, 1, (2, [(1, .negSucc 2147483647, .ofNat 2147483647)], [], [(0, .inl 78), (1, .inr (false, (1, .ofNat 0)))], [], [], []), [(78, 1), (80, 0), (82, 0)], [
  (5, [(1, .negSucc 2147483647, .ofNat 2147483647), (2, .ofNat 0, .ofNat 63), (3, .ofNat 0, .ofNat 1), (4, .ofNat 0, .ofNat 6)], [], [], [.inr (false, (2, .ofNat 0))], [(78, (0, .ofNat 0), .inr (false, (3, .ofNat 0))), (82, (0, .ofNat 0), .inr (false, (4, .ofNat 0)))], [])], [], 0, 0)
def cu1583 : List sxCu := []
set_option maxRecDepth 1000000 in
theorem cv1583 {gh : sxGh} (hg : sxGd sxKw gh) : sxCtV sxKw gh ct1583 := sxMeB_ok (cts := []) (cuts := cu1583) (sp := []) 175 (by decide +kernel) hg (by decide) (by decide) (fun _ h => absurd h List.not_mem_nil)
/-- LotBeliefsModel.world -/
def ct1584 : sxCt := (258, 1, (2, [(1, .ofNat 0, .ofNat 63)], [], [(0, .inl 78), (1, .inr (false, (1, .ofNat 0)))], [], [], []), [(78, 1), (80, 0), (82, 0)], [
  (5, [(1, .ofNat 0, .ofNat 63), (2, .ofNat 0, .ofNat 63), (3, .ofNat 0, .ofNat 1), (4, .ofNat 0, .ofNat 6)], [], [], [.inr (false, (2, .ofNat 0))], [(78, (0, .ofNat 0), .inr (false, (3, .ofNat 0))), (82, (0, .ofNat 0), .inr (false, (4, .ofNat 0)))], [])], [], 0, 0)
def cu1584 : List sxCu := []
set_option maxRecDepth 1000000 in
theorem cv1584 {gh : sxGh} (hg : sxGd sxKw gh) : sxCtV sxKw gh ct1584 := sxMeB_ok (cts := []) (cuts := cu1584) (sp := []) 142 (by decide +kernel) hg (by decide) (by decide) (fun _ h => absurd h List.not_mem_nil)
/-- LotBeliefs.order -/
def ct1585 : sxCt := (126, 2, (2, [(1, .negSucc 9223372036854775807, .ofNat 9223372036854775807)], [], [(0, .inl 0), (1, .inr (true, (1, .ofNat 0)))], [], [], []), [(28, 0)], [
  (3, [(1, .negSucc 9223372036854775807, .ofNat 9223372036854775807), (2, .ofNat 0, .ofNat 1)], [], [], [.inr (false, (2, .ofNat 0))], [], [])], [], 0, 0)
def cu1585 : List sxCu := [
  (23, (4, [(1, .negSucc 9223372036854775807, .ofNat 9223372036854775807), (2, .ofNat 0, .ofNat 4095), (3, .ofNat 0, .ofNat 12)], [], [(0, .inl 0), (1, .inr (true, (1, .ofNat 0))), (3, .inr (false, (2, .ofNat 0))), (4, .inr (false, (3, .ofNat 0)))], [], [], []), ((0, 3, .ofNat 12), (0, 0, .ofNat 0), (0, 0, .ofNat 0)), 0, 0)]
set_option maxRecDepth 1000000 in
theorem cv1585 {gh : sxGh} (hg : sxGd sxKw gh) : sxCtV sxKw gh ct1585 := sxMeB_ok (cts := [ct1540]) (cuts := cu1585) (sp := []) 201 (by decide +kernel) hg (by decide) (by decide) (List.forall_mem_cons.mpr ⟨cv1540 hg, (fun _ h => absurd h List.not_mem_nil)⟩)
/-- LotBeliefsModel.order -/
def ct1586 : sxCt := (255, 2, (2, [(1, .negSucc 9223372036854775807, .ofNat 9223372036854775807)], [], [(0, .inl 78), (1, .inr (true, (1, .ofNat 0)))], [], [], []), [(78, 1), (90, 0), (560, 0)], [
  (3, [(1, .negSucc 9223372036854775807, .ofNat 9223372036854775807), (2, .ofNat 0, .ofNat 1)], [], [], [.inr (false, (2, .ofNat 0))], [(78, (0, .ofNat 0), .inr (false, (0, .ofNat 0)))], [])], [], 0, 0)
def cu1586 : List sxCu := [
  (112, (5, [(1, .ofNat 0, .ofNat 9223372036854775807), (2, .ofNat 0, .ofNat 4095), (3, .ofNat 0, .ofNat 12), (4, .ofNat 0, .ofNat 12)], [(3, 4, .ofNat 0)], [(0, .inl 78), (1, .inr (true, (1, .ofNat 0))), (3, .inr (true, (0, .ofNat 0))), (5, .inr (false, (2, .ofNat 0))), (6, .inr (false, (3, .ofNat 0)))], [], [(78, (0, .ofNat 0), .inr (false, (0, .ofNat 0))), (78, (0, .ofNat 12), .inl 82), (82, (0, .ofNat 1), .inr (false, (4, .ofNat 0)))], []), ((0, 3, .ofNat 12), (0, 0, .ofNat 0), (0, 0, .ofNat 0)), 0, 0), 
  (20, (6, [(1, .negSucc 9223372036854775807, .ofNat 9223372036854775807), (2, .negSucc 9223372036854775807, .ofNat 9223372036854775807), (3, .ofNat 0, .ofNat 4095), (4, .negSucc 0, .ofNat 11), (5, .ofNat 0, .ofNat 12)], [(4, 5, .negSucc 0)], [(0, .inl 78), (1, .inr (true, (1, .ofNat 0))), (3, .inr (true, (2, .ofNat 0))), (5, .inr (false, (3, .ofNat 0))), (6, .inr (false, (4, .ofNat 0)))], [], [(78, (0, .ofNat 0), .inr (false, (0, .ofNat 0))), (78, (0, .ofNat 12), .inl 82), (82, (0, .ofNat 1), .inr (false, (5, .ofNat 0)))], []), ((4, 0, .ofNat 14), (0, 0, .ofNat 0), (0, 0, .ofNat 0)), 0, 0)]
set_option maxRecDepth 1000000 in
theorem cv1586 {gh : sxGh} (hg : sxGd sxKw gh) : sxCtV sxKw gh ct1586 := sxMeB_ok (cts := []) (cuts := cu1586) (sp := []) 209 (by decide +kernel) hg (by decide) (by decide) (fun _ h => absurd h List.not_mem_nil)
/-- LotBeliefs.dull -/
def ct1587 : sxCt := (125, 0, (1, [], [], [(0, .inl 0)], [], [], []), [], [
  (2, [(1, .ofNat 0, .ofNat 4095)], [], [], [.inr (false, (1, .ofNat 0))], [], [])], [], 0, 0)
def cu1587 : List sxCu := [
  (4, (3, [(1, .ofNat 0, .ofNat 4095), (2, .ofNat 0, .ofNat 12)], [], [(0, .inl 0), (1, .inr (false, (1, .ofNat 0))), (2, .inr (false, (2, .ofNat 0)))], [], [], []), ((0, 2, .ofNat 12), (0, 0, .ofNat 0), (0, 0, .ofNat 0)), 0, 0)]
set_option maxRecDepth 1000000 in
theorem cv1587 {gh : sxGh} (hg : sxGd sxKw gh) : sxCtV sxKw gh ct1587 := sxMeB_ok (cts := []) (cuts := cu1587) (sp := []) 139 (by decide +kernel) hg (by decide) (by decide) (fun _ h => absurd h List.not_mem_nil)
/-- LotBeliefsModel.dull -/
def ct1588 : sxCt := (254, 0, (1, [], [], [(0, .inl 78)], [], [], []), [(78, 1)], [
  (2, [(1, .ofNat 0, .ofNat 4095)], [], [], [.inr (false, (1, .ofNat 0))], [(78, (0, .ofNat 0), .inr (false, (0, .ofNat 0)))], [])], [], 0, 0)
def cu1588 : List sxCu := [
  (9, (3, [(1, .ofNat 0, .ofNat 4095), (2, .ofNat 0, .ofNat 12)], [], [(0, .inl 78), (1, .inr (false, (1, .ofNat 0))), (2, .inr (false, (2, .ofNat 0)))], [], [(78, (0, .ofNat 0), .inr (false, (0, .ofNat 0)))], []), ((0, 2, .ofNat 12), (0, 0, .ofNat 0), (0, 0, .ofNat 0)), 0, 0)]
set_option maxRecDepth 1000000 in
theorem cv1588 {gh : sxGh} (hg : sxGd sxKw gh) : sxCtV sxKw gh ct1588 := sxMeB_ok (cts := []) (cuts := cu1588) (sp := []) 111 (by decide +kernel) hg (by decide) (by decide) (fun _ h => absurd h List.not_mem_nil)
/-- LotBeliefsModel.fallOut -/
def ct1589 : sxCt := (250, 2, (4, [(1, .negSucc 2147483647, .ofNat 2147483647), (2, .negSucc 2147483647, .ofNat 2147483647), (3, .negSucc 2147483647, .ofNat 2147483647)], [], [(0, .inl 78), (1, .inr (false, (1, .ofNat 0))), (2, .inr (false, (2, .ofNat 0))), (3, .inr (false, (3, .ofNat 0)))], [], [], []), [(78, 1), (80, 0)], [
  (5, [(1, .negSucc 2147483647, .ofNat 2147483647), (2, .negSucc 2147483647, .ofNat 2147483647), (3, .negSucc 2147483647, .ofNat 2147483647), (4, .ofNat 0, .ofNat 2)], [], [], [.inr (false, (0, .ofNat 0))], [(78, (0, .ofNat 0), .inr (false, (4, .ofNat 0)))], []), 
  (4, [(1, .ofNat 0, .ofNat 11), (2, .ofNat 0, .ofNat 11), (3, .ofNat 0, .ofNat 51)], [], [], [.inr (false, (0, .ofNat 1))], [(78, (0, .ofNat 0), .inr (false, (0, .ofNat 0)))], [])], [], 0, 0)
def cu1589 : List sxCu := []
set_option maxRecDepth 1000000 in
theorem cv1589 {gh : sxGh} (hg : sxGd sxKw gh) : sxCtV sxKw gh ct1589 := sxMeB_ok (cts := []) (cuts := cu1589) (sp := []) 390 (by decide +kernel) hg (by decide) (by decide) (fun _ h => absurd h List.not_mem_nil)
/-- LotBeliefsModel.fallOut -/
def ct1590 : sxCt := (250, 2, (4, [(1, .ofNat 0, .ofNat 11), (2, .negSucc 2147483647, .ofNat 2147483647), (3, .negSucc 2147483647, .ofNat 2147483647)], [], [(0, .inl 78), (1, .inr (false, (1, .ofNat 0))), (2, .inr (false, (2, .ofNat 0))), (3, .inr (false, (3, .ofNat 0)))], [], [], []), [(78, 1), (80, 0)], [
  (5, [(1, .ofNat 0, .ofNat 11), (2, .negSucc 2147483647, .ofNat 2147483647), (3, .negSucc 2147483647, .ofNat 2147483647), (4, .ofNat 0, .ofNat 2)], [], [], [.inr (false, (0, .ofNat 0))], [(78, (0, .ofNat 0), .inr (false, (4, .ofNat 0)))], []), 
  (4, [(1, .ofNat 0, .ofNat 11), (2, .ofNat 0, .ofNat 11), (3, .ofNat 0, .ofNat 51)], [], [], [.inr (false, (0, .ofNat 1))], [(78, (0, .ofNat 0), .inr (false, (0, .ofNat 0)))], [])], [], 0, 0)
def cu1590 : List sxCu := []
set_option maxRecDepth 1000000 in
theorem cv1590 {gh : sxGh} (hg : sxGd sxKw gh) : sxCtV sxKw gh ct1590 := sxMeB_ok (cts := []) (cuts := cu1590) (sp := []) 356 (by decide +kernel) hg (by decide) (by decide) (fun _ h => absurd h List.not_mem_nil)
/-- LotBeliefsModel.fallOut -/
def ct1591 : sxCt := (250, 2, (4, [(1, .ofNat 0, .ofNat 11), (2, .ofNat 0, .ofNat 11), (3, .negSucc 2147483647, .ofNat 2147483647)], [], [(0, .inl 78), (1, .inr (false, (1, .ofNat 0))), (2, .inr (false, (2, .ofNat 0))), (3, .inr (false, (3, .ofNat 0)))], [], [], []), [(78, 1), (80, 0)], [
  (5, [(1, .ofNat 0, .ofNat 11), (2, .ofNat 0, .ofNat 11), (3, .negSucc 2147483647, .ofNat 2147483647), (4, .ofNat 0, .ofNat 2)], [], [], [.inr (false, (0, .ofNat 0))], [(78, (0, .ofNat 0), .inr (false, (4, .ofNat 0)))], []), 
  (4, [(1, .ofNat 0, .ofNat 11), (2, .ofNat 0, .ofNat 11), (3, .ofNat 0, .ofNat 51)], [], [], [.inr (false, (0, .ofNat 1))], [(78, (0, .ofNat 0), .inr (false, (0, .ofNat 0)))], [])], [], 0, 0)
def cu1591 : List sxCu := []
set_option maxRecDepth 1000000 in
theorem cv1591 {gh : sxGh} (hg : sxGd sxKw gh) : sxCtV sxKw gh ct1591 := sxMeB_ok (cts := []) (cuts := cu1591) (sp := []) 322 (by decide +kernel) hg (by decide) (by decide) (fun _ h => absurd h List.not_mem_nil)
/-- LotBeliefsModel.fallOut -/
def ct1592 : sxCt := (250, 2, (4, [(1, .ofNat 0, .ofNat 11), (2, .ofNat 0, .ofNat 11), (3, .ofNat 0, .ofNat 51)], [], [(0, .inl 78), (1, .inr (false, (1, .ofNat 0))), (2, .inr (false, (2, .ofNat 0))), (3, .inr (false, (3, .ofNat 0)))], [], [], []), [(78, 1), (80, 0)], [
  (5, [(1, .ofNat 0, .ofNat 11), (2, .ofNat 0, .ofNat 11), (3, .ofNat 0, .ofNat 51), (4, .ofNat 0, .ofNat 1)], [], [], [.inr (false, (0, .ofNat 0))], [(78, (0, .ofNat 0), .inr (false, (4, .ofNat 0)))], []), 
  (4, [(1, .ofNat 0, .ofNat 11), (2, .ofNat 0, .ofNat 11), (3, .ofNat 0, .ofNat 51)], [], [], [.inr (false, (0, .ofNat 1))], [(78, (0, .ofNat 0), .inr (false, (0, .ofNat 0)))], [])], [], 0, 0)
def cu1592 : List sxCu := []
set_option maxRecDepth 1000000 in
theorem cv1592 {gh : sxGh} (hg : sxGd sxKw gh) : sxCtV sxKw gh ct1592 := sxMeB_ok (cts := []) (cuts := cu1592) (sp := []) 254 (by decide +kernel) hg (by decide) (by decide) (fun _ h => absurd h List.not_mem_nil)
/-- LotBeliefs.kin -/
def ct1593 : sxCt := (122, 2, (3, [(1, .negSucc 2147483647, .ofNat 2147483647), (2, .negSucc 2147483647, .ofNat 2147483647)], [], [(0, .inl 0), (1, .inr (false, (1, .ofNat 0))), (2, .inr (false, (2, .ofNat 0)))], [], [], []), [(30, 0)], [
  (4, [(1, .ofNat 0, .ofNat 11), (2, .ofNat 0, .ofNat 11), (3, .ofNat 0, .ofNat 4)], [], [], [.inr (false, (3, .ofNat 0))], [], [])], [
  (0, (4, [(1, .negSucc 2147483647, .ofNat 2147483647), (2, .negSucc 2147483647, .ofNat 2147483647), (3, .negSucc 2147483647, .ofNat 2147483647)], [], [], [], [(30, (0, .ofNat 0), .inr (false, (3, .ofNat 0)))], []))], 1, 6)
def cu1593 : List sxCu := []
set_option maxRecDepth 1000000 in
theorem cv1593 {gh : sxGh} (hg : sxGd sxKw gh) : sxCtV sxKw gh ct1593 := sxMeB_ok (cts := []) (cuts := cu1593) (sp := []) 597 (by decide +kernel) hg (by decide) (by decide) (fun _ h => absurd h List.not_mem_nil)
/-- LotBeliefsModel.kin -/
def ct1594 : sxCt := (248, 2, (3, [(1, .negSucc 2147483647, .ofNat 2147483647), (2, .negSucc 2147483647, .ofNat 2147483647)], [], [(0, .inl 78), (1, .inr (false, (1, .ofNat 0))), (2, .inr (false, (2, .ofNat 0)))], [], [], []), [(78, 1), (80, 0)], [
  (5, [(1, .negSucc 2147483647, .ofNat 2147483647), (2, .negSucc 2147483647, .ofNat 2147483647), (3, .ofNat 0, .ofNat 4), (4, .ofNat 0, .ofNat 1)], [], [], [.inr (false, (3, .ofNat 0))], [(78, (0, .ofNat 0), .inr (false, (4, .ofNat 0)))], [])], [], 0, 0)
def cu1594 : List sxCu := []
set_option maxRecDepth 1000000 in
theorem cv1594 {gh : sxGh} (hg : sxGd sxKw gh) : sxCtV sxKw gh ct1594 := sxMeB_ok (cts := []) (cuts := cu1594) (sp := []) 423 (by decide +kernel) hg (by decide) (by decide) (fun _ h => absurd h List.not_mem_nil)
/-- LotBeliefsModel.kin -/
def ct1595 : sxCt := (248, 2, (3, [(1, .ofNat 0, .ofNat 11), (2, .ofNat 0, .ofNat 11)], [], [(0, .inl 78), (1, .inr (false, (1, .ofNat 0))), (2, .inr (false, (2, .ofNat 0)))], [], [], []), [(78, 1), (80, 0)], [
  (5, [(1, .ofNat 0, .ofNat 11), (2, .ofNat 0, .ofNat 11), (3, .ofNat 0, .ofNat 4), (4, .ofNat 0, .ofNat 1)], [], [], [.inr (false, (3, .ofNat 0))], [(78, (0, .ofNat 0), .inr (false, (4, .ofNat 0)))], [])], [], 0, 0)
def cu1595 : List sxCu := []
set_option maxRecDepth 1000000 in
theorem cv1595 {gh : sxGh} (hg : sxGd sxKw gh) : sxCtV sxKw gh ct1595 := sxMeB_ok (cts := []) (cuts := cu1595) (sp := []) 355 (by decide +kernel) hg (by decide) (by decide) (fun _ h => absurd h List.not_mem_nil)
/-- LotBeliefs.Tape.step -/
def ct1596 : sxCt := (83, 0, (1, [], [], [(0, .inl 1)], [], [], []), [(1, 4), (1, 5), (1, 6), (1, 7)], [
  (2, [(1, .ofNat 0, .ofNat 4)], [], [], [], [(1, (0, .ofNat 3), .inr (false, (1, .ofNat 0)))], [])], [], 0, 0)
def cu1596 : List sxCu := [
  (109, (6, [(1, .ofNat 0, .ofNat 600), (2, .ofNat 1, .ofNat 600), (3, .ofNat 0, .ofNat 599), (4, .ofNat 0, .ofNat 599), (5, .ofNat 97, .ofNat 122)], [(3, 1, .ofNat 0), (3, 2, .negSucc 0), (4, 1, .ofNat 0), (4, 2, .negSucc 0), (4, 3, .ofNat 0)], [(0, .inl 1), (1, .inr (false, (1, .ofNat 0)))], [], [(1, (0, .ofNat 0), .inl 2), (1, (0, .ofNat 2), .inr (false, (2, .ofNat 0))), (1, (0, .ofNat 3), .inr (false, (0, .ofNat 1))), (1, (0, .ofNat 4), .inr (false, (3, .ofNat 0))), (1, (0, .ofNat 5), .inr (false, (4, .ofNat 0))), (1, (0, .ofNat 6), .inr (false, (5, .ofNat 0)))], []), ((0, 1, .ofNat 1201), (0, 0, .ofNat 0), (0, 0, .ofNat 0)), 0, 0), 
  (14, (4, [(1, .ofNat 0, .ofNat 600), (2, .ofNat 0, .ofNat 3), (3, .ofNat 0, .ofNat 600)], [(3, 1, .ofNat 0)], [(0, .inl 1), (1, .inr (false, (1, .ofNat 0)))], [], [(1, (0, .ofNat 3), .inr (false, (2, .ofNat 0))), (1, (0, .ofNat 5), .inr (false, (3, .ofNat 0)))], []), ((0, 1, .ofNat 1802), (0, 0, .ofNat 0), (0, 0, .ofNat 0)), 0, 0), 
  (173, (6, [(1, .ofNat 0, .ofNat 600), (2, .ofNat 1, .ofNat 600), (3, .ofNat 0, .ofNat 599), (4, .ofNat 0, .ofNat 599), (5, .negSucc 2147483647, .ofNat 2147483647)], [(3, 1, .ofNat 0), (3, 2, .negSucc 0), (4, 1, .ofNat 0), (4, 2, .negSucc 0), (4, 3, .ofNat 0)], [(0, .inl 1), (1, .inr (false, (1, .ofNat 0)))], [], [(1, (0, .ofNat 0), .inl 2), (1, (0, .ofNat 2), .inr (false, (2, .ofNat 0))), (1, (0, .ofNat 3), .inr (false, (0, .ofNat 2))), (1, (0, .ofNat 4), .inr (false, (3, .ofNat 0))), (1, (0, .ofNat 5), .inr (false, (4, .ofNat 0))), (1, (0, .ofNat 6), .inr (false, (5, .ofNat 0)))], []), ((0, 1, .ofNat 600), (0, 0, .ofNat 0), (0, 0, .ofNat 0)), 0, 0)]
set_option maxRecDepth 1000000 in
theorem cv1596 {gh : sxGh} (hg : sxGd sxKw gh) : sxCtV sxKw gh ct1596 := sxMeB_ok (cts := []) (cuts := cu1596) (sp := []) 257 (by decide +kernel) hg (by decide) (by decide) (fun _ h => absurd h List.not_mem_nil)
/-- LotBeliefs.Tape.isWord -/
def ct1597 : sxCt := (85, 0, (1, [], [], [(0, .inl 1), (1, .inl 1000012)], [], [], []), [], [
  (1, [], [], [], [.inr (false, (0, .ofNat 0))], [], []), 
  (1, [], [], [], [.inr (false, (0, .ofNat 1))], [], [])], [], 0, 0)
def cu1597 : List sxCu := []
set_option maxRecDepth 1000000 in
theorem cv1597 {gh : sxGh} (hg : sxGd sxKw gh) : sxCtV sxKw gh ct1597 := sxMeB_ok (cts := []) (cuts := cu1597) (sp := []) 204 (by decide +kernel) hg (by decide) (by decide) (fun _ h => absurd h List.not_mem_nil)
/-- LotBeliefs.Tape.isWord -/
def ct1598 : sxCt := (85, 0, (1, [], [], [(0, .inl 1), (1, .inl 1000015)], [], [], []), [], [
  (1, [], [], [], [.inr (false, (0, .ofNat 0))], [], []), 
  (1, [], [], [], [.inr (false, (0, .ofNat 1))], [], [])], [], 0, 0)
def cu1598 : List sxCu := []
set_option maxRecDepth 1000000 in
theorem cv1598 {gh : sxGh} (hg : sxGd sxKw gh) : sxCtV sxKw gh ct1598 := sxMeB_ok (cts := []) (cuts := cu1598) (sp := []) 174 (by decide +kernel) hg (by decide) (by decide) (fun _ h => absurd h List.not_mem_nil)
/-- LotBeliefs.Tape.isWord -/
def ct1599 : sxCt := (85, 0, (1, [], [], [(0, .inl 1), (1, .inl 1000016)], [], [], []), [], [
  (1, [], [], [], [.inr (false, (0, .ofNat 0))], [], []), 
  (1, [], [], [], [.inr (false, (0, .ofNat 1))], [], [])], [], 0, 0)
def cu1599 : List sxCu := []
set_option maxRecDepth 1000000 in
theorem cv1599 {gh : sxGh} (hg : sxGd sxKw gh) : sxCtV sxKw gh ct1599 := sxMeB_ok (cts := []) (cuts := cu1599) (sp := []) 174 (by decide +kernel) hg (by decide) (by decide) (fun _ h => absurd h List.not_mem_nil)
/-- LotBeliefs.Tape.isWord -/
def ct1600 : sxCt := (85, 0, (1, [], [], [(0, .inl 1), (1, .inl 1000017)], [], [], []), [], [
  (1, [], [], [], [.inr (false, (0, .ofNat 0))], [], []), 
  (1, [], [], [], [.inr (false, (0, .ofNat 1))], [], [])], [], 0, 0)
def cu1600 : List sxCu := []
set_option maxRecDepth 1000000 in
theorem cv1600 {gh : sxGh} (hg : sxGd sxKw gh) : sxCtV sxKw gh ct1600 := sxMeB_ok (cts := []) (cuts := cu1600) (sp := []) 234 (by decide +kernel) hg (by decide) (by decide) (fun _ h => absurd h List.not_mem_nil)
end SXC
