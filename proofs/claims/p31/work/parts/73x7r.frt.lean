/-! FR: tables, by program -/
set_option maxRecDepth 1000000
section FRT
/-- LotBeliefsModel.clause -/
def rM0 : frMt := (222, [], [(81, 81, 0, 100000), (83, 83, 0, 100000), (85, 85, 0, 100000), (87, 87, 0, 100000), (78, 78, 4, 4), (78, 78, 7, 8)], none, [(0, ([(0, .inl [78])], [])), (39, ([(0, .inl [78]), (1, .inr false)], [])), (71, ([(0, .inl [78]), (1, .inr false)], [])), (285, ([(0, .inl [78])], []))], [(1, 3), (16, 8), (33, 9), (45, 8), (68, 8), (80, 11), (137, 15), (155, 1), (186, 15), (201, 1), (232, 1), (266, 15), (281, 15), (288, 16)], [])
/-- LotBeliefsModel.anyOf -/
def rM1 : frMt := (217, [], [(78, 78, 4, 4), (78, 78, 8, 8)], some (.inr true), [(0, ([(0, .inl [78])], [])), (5, ([(0, .inl [78]), (1, .inr true)], []))], [(1, 4), (14, 10), (22, 4)], [])
/-- LotBeliefsModel.whoHere -/
def rM2 : frMt := (235, [], [(107, 116, 0, 100000), (339, 558, 0, 100000), (78, 78, 4, 4), (78, 78, 8, 8), (78, 78, 26, 26), (78, 78, 28, 28)], none, [(0, ([(0, .inl [78])], [])), (59, ([(0, .inl [78])], [.inr false])), (95, ([(0, .inl [78]), (1, .inr false)], []))], [(10, 5), (29, 5), (48, 5), (71, 8), (92, 8), (104, 11), (135, 17), (166, 16)], [])
/-- LotBeliefsModel.kindHere -/
def rM3 : frMt := (220, [], [(78, 78, 4, 4)], some (.inr false), [(0, ([(0, .inl [78])], [])), (111, ([], [.inr false]))], [(11, 5), (30, 5), (46, 5), (64, 5), (83, 5), (100, 5)], [])
/-- LotBeliefsModel.eachOf -/
def rM4 : frMt := (218, [], [(78, 78, 4, 4), (78, 78, 8, 8)], some (.inr true), [(0, ([(0, .inl [78])], [])), (5, ([(0, .inl [78]), (1, .inr true)], []))], [(1, 6), (13, 10), (21, 6)], [])
/-- LotBeliefsModel.isWord -/
def rM5 : frMt := (208, [], [(78, 78, 4, 4)], some (.inr false), [(0, ([(0, .inl [78]), (1, .inr false), (2, .inr false), (3, .inr false), (4, .inr false), (5, .inr false), (6, .inr false)], [])), (30, ([], [])), (31, ([], [.inr false]))], [(8, 7), (20, 13)], [])
/-- LotBeliefsModel.oneOf -/
def rM6 : frMt := (219, [], [(78, 78, 4, 4), (78, 78, 8, 8)], some (.inr true), [(0, ([(0, .inl [78])], [])), (198, ([(0, .inl [78]), (3, .inr true)], [])), (264, ([(0, .inl [78]), (3, .inr true)], [])), (288, ([(0, .inl [78]), (3, .inr true)], [])), (305, ([(3, .inr true)], [.inr false, .inr false, .inl [78]])), (309, ([(3, .inr true)], []))], [(10, 12), (19, 18), (35, 5), (42, 22), (51, 11), (56, 6), (83, 14), (92, 22), (111, 1), (118, 16), (143, 5), (150, 22), (159, 11), (164, 6), (183, 10), (195, 8), (200, 6), (223, 14), (242, 23), (255, 14), (258, 19), (270, 8), (284, 27)], [])
/-- LotBeliefsModel.wordHere -/
def rM7 : frMt := (206, [], [(78, 78, 4, 4)], some (.inr false), [(0, ([(0, .inl [78])], [])), (8, ([(0, .inl [78]), (1, .inr false), (2, .inr false)], [])), (54, ([(0, .inl [78]), (2, .inr false)], [.inr false])), (72, ([], [.inr false]))], [(1, 12), (15, 14), (18, 19), (41, 14)], [])
/-- LotBeliefsModel.wrong -/
def rM8 : frMt := (202, [], [], none, [(0, ([(0, .inl [78]), (1, .inr false), (2, .inr false)], []))], [], [])
/-- LotBeliefsModel.isFull -/
def rM9 : frMt := (221, [], [], some (.inr false), [(0, ([(0, .inl [78]), (1, .inr false)], [])), (16, ([(0, .inl [78]), (1, .inr false)], [])), (32, ([(0, .inl [78]), (1, .inr false)], [])), (47, ([], [])), (51, ([], [])), (52, ([], [.inr false]))], [], [])
/-- LotBeliefsModel.takes -/
def rM10 : frMt := (210, [], [(78, 78, 4, 4)], some (.inr false), [(0, ([(0, .inl [78]), (1, .inr false), (2, .inr false), (3, .inr false), (4, .inr false), (5, .inr false), (6, .inr false)], [])), (24, ([(7, .inr false)], []))], [(10, 5), (21, 11)], [])
/-- LotBeliefsModel.skipWord -/
def rM11 : frMt := (209, [], [(78, 78, 4, 4)], none, [(0, ([(0, .inl [78])], []))], [(5, 14), (8, 19)], [])
/-- LotBeliefsModel.blanks -/
def rM12 : frMt := (201, [], [(78, 78, 4, 4)], none, [(0, ([(0, .inl [78])], []))], [(5, 14)], [])
/-- LotBeliefsModel.six -/
def rM13 : frMt := (207, [], [], some (.inr false), [(0, ([(0, .inr false), (1, .inr false), (2, .inr false), (3, .inr false), (4, .inr false), (5, .inr false)], [])), (24, ([(3, .inr false), (4, .inr false), (5, .inr false)], [.inr false])), (42, ([(4, .inr false), (5, .inr false)], [.inr false])), (62, ([(5, .inr false)], [.inr false])), (82, ([], [.inr false]))], [], [])
/-- LotBeliefsModel.byteAt -/
def rM14 : frMt := (200, [], [], some (.inr false), [(0, ([(0, .inl [78]), (1, .inr false)], [])), (18, ([], [.inr false]))], [], [])
/-- LotBeliefsModel.number -/
def rM15 : frMt := (205, [], [(78, 78, 4, 4)], some (.inr false), [(0, ([(0, .inl [78]), (1, .inr false), (2, .inr false)], [])), (44, ([(0, .inl [78]), (1, .inr false), (2, .inr false), (3, .inr false), (4, .inr false)], [])), (91, ([(0, .inl [78]), (1, .inr false), (2, .inr false), (3, .inr false)], [.inr false])), (122, ([(0, .inl [78]), (4, .inr false)], [])), (135, ([], [.inr false]))], [(10, 12), (26, 14), (29, 20), (41, 8), (49, 14), (52, 20), (68, 14), (110, 23), (119, 8)], [])
/-- LotBeliefsModel.sign -/
def rM16 : frMt := (211, [], [(78, 78, 4, 4)], none, [(0, ([(0, .inl [78]), (1, .inr false)], [])), (46, ([], []))], [(9, 12), (17, 14), (43, 8)], [])
/-- LotBeliefsModel.tongueAny -/
def rM17 : frMt := (228, [], [(339, 558, 0, 100000), (78, 78, 4, 4), (78, 78, 8, 8), (78, 78, 28, 28)], none, [(0, ([(0, .inl [78])], [])), (4, ([(0, .inl [78])], []))], [(1, 21), (13, 10), (20, 21), (27, 25)], [])
/-- LotBeliefsModel.allOf -/
def rM18 : frMt := (215, [], [], some (.inr true), [(0, ([(0, .inr false)], [])), (19, ([], [.inr true]))], [], [])
/-- LotBeliefsModel.isSmall -/
def rM19 : frMt := (204, [], [], some (.inr false), [(0, ([(0, .inr false)], [])), (16, ([], [])), (17, ([], [.inr false]))], [], [])
/-- LotBeliefsModel.isDigit -/
def rM20 : frMt := (203, [], [], some (.inr false), [(0, ([(0, .inr false)], [])), (16, ([], [])), (17, ([], [.inr false]))], [], [])
/-- LotBeliefsModel.tongueEach -/
def rM21 : frMt := (229, [], [(339, 558, 0, 100000), (78, 78, 4, 4), (78, 78, 8, 8), (78, 78, 28, 28)], none, [(0, ([(0, .inl [78])], [])), (4, ([(0, .inl [78])], []))], [(1, 24), (12, 10), (19, 24), (26, 25)], [])
/-- LotBeliefsModel.opens -/
def rM22 : frMt := (213, [], [(78, 78, 8, 8)], some (.inr false), [(0, ([(0, .inl [78])], [])), (28, ([(0, .inl [78])], [])), (45, ([(0, .inl [78])], [])), (57, ([], [.inr false]))], [(22, 8)], [])
/-- LotBeliefsModel.in -/
def rM23 : frMt := (198, [], [], some (.inr false), [(0, ([(0, .inr false), (1, .inr false), (2, .inr false)], [])), (14, ([], [])), (15, ([], [.inr false]))], [], [])
/-- LotBeliefsModel.tongueOne -/
def rM24 : frMt := (230, [], [(339, 558, 0, 100000), (78, 78, 4, 4), (78, 78, 8, 8), (78, 78, 28, 28)], none, [(0, ([(0, .inl [78])], [])), (160, ([(0, .inl [78])], [.inr false])), (175, ([(0, .inl [78]), (1, .inr false)], []))], [(9, 12), (22, 5), (29, 22), (37, 11), (41, 24), (48, 25), (67, 14), (76, 22), (94, 17), (100, 16), (115, 26), (121, 29), (134, 29), (148, 29), (172, 8), (176, 26), (182, 25)], [])
/-- LotBeliefsModel.says -/
def rM25 : frMt := (227, [], [(339, 558, 0, 100000), (78, 78, 28, 28)], none, [(0, ([(0, .inl [78]), (1, .inr false), (2, .inr false)], []))], [], [])
/-- LotBeliefsModel.sum -/
def rM26 : frMt := (231, [], [(339, 558, 0, 100000), (78, 78, 4, 4), (78, 78, 8, 8), (78, 78, 28, 28)], none, [(0, ([(0, .inl [78])], [])), (4, ([(0, .inl [78])], [])), (38, ([(0, .inl [78])], [.inr false]))], [(1, 28), (14, 29), (27, 29), (46, 28), (52, 25)], [])
/-- LotBeliefsModel.atomOf -/
def rM27 : frMt := (216, [], [], some (.inr true), [(0, ([(0, .inr false), (1, .inr false)], [])), (5, ([(0, .inr false), (1, .inr false), (2, .inr true), (4, .inr false)], []))], [], [])
/-- LotBeliefsModel.product -/
def rM28 : frMt := (232, [], [(339, 558, 0, 100000), (78, 78, 4, 4), (78, 78, 8, 8), (78, 78, 28, 28)], none, [(0, ([(0, .inl [78])], [])), (4, ([(0, .inl [78])], []))], [(1, 30), (7, 29), (14, 30), (20, 25)], [])
/-- LotBeliefsModel.takesSign -/
def rM29 : frMt := (212, [], [(78, 78, 4, 4)], some (.inr false), [(0, ([(0, .inl [78]), (1, .inr false)], [])), (30, ([(0, .inl [78])], [.inr false])), (45, ([(2, .inr false)], []))], [(10, 12), (18, 14)], [])
/-- LotBeliefsModel.oneValue -/
def rM30 : frMt := (234, [], [(339, 558, 0, 100000), (78, 78, 4, 4), (78, 78, 8, 8), (78, 78, 28, 28)], none, [(0, ([(0, .inl [78])], [])), (111, ([(0, .inl [78]), (1, .inr false)], []))], [(9, 12), (17, 14), (26, 22), (44, 26), (50, 16), (69, 14), (72, 20), (85, 15), (88, 25), (93, 31), (108, 8), (114, 25)], [])
/-- LotBeliefsModel.knownHere -/
def rM31 : frMt := (233, [], [(78, 78, 4, 4)], some (.inr false), [(0, ([(0, .inl [78])], [])), (185, ([], [.inr false]))], [(8, 10), (28, 10), (46, 10), (64, 10), (82, 10), (100, 10), (117, 10), (135, 10), (154, 10), (173, 10)], [])
def rMs : List frMt := [rM0, rM1, rM2, rM3, rM4, rM5, rM6, rM7, rM8, rM9, rM10, rM11, rM12, rM13, rM14, rM15, rM16, rM17, rM18, rM19, rM20, rM21, rM22, rM23, rM24, rM25, rM26, rM27, rM28, rM29, rM30, rM31]
theorem rIn0 : rM0 ∈ rMs := List.mem_of_getElem? (i := 0) rfl
theorem rIn1 : rM1 ∈ rMs := List.mem_of_getElem? (i := 1) rfl
theorem rIn2 : rM2 ∈ rMs := List.mem_of_getElem? (i := 2) rfl
theorem rIn3 : rM3 ∈ rMs := List.mem_of_getElem? (i := 3) rfl
theorem rIn4 : rM4 ∈ rMs := List.mem_of_getElem? (i := 4) rfl
theorem rIn5 : rM5 ∈ rMs := List.mem_of_getElem? (i := 5) rfl
theorem rIn6 : rM6 ∈ rMs := List.mem_of_getElem? (i := 6) rfl
theorem rIn7 : rM7 ∈ rMs := List.mem_of_getElem? (i := 7) rfl
theorem rIn8 : rM8 ∈ rMs := List.mem_of_getElem? (i := 8) rfl
theorem rIn9 : rM9 ∈ rMs := List.mem_of_getElem? (i := 9) rfl
theorem rIn10 : rM10 ∈ rMs := List.mem_of_getElem? (i := 10) rfl
theorem rIn11 : rM11 ∈ rMs := List.mem_of_getElem? (i := 11) rfl
theorem rIn12 : rM12 ∈ rMs := List.mem_of_getElem? (i := 12) rfl
theorem rIn13 : rM13 ∈ rMs := List.mem_of_getElem? (i := 13) rfl
theorem rIn14 : rM14 ∈ rMs := List.mem_of_getElem? (i := 14) rfl
theorem rIn15 : rM15 ∈ rMs := List.mem_of_getElem? (i := 15) rfl
theorem rIn16 : rM16 ∈ rMs := List.mem_of_getElem? (i := 16) rfl
theorem rIn17 : rM17 ∈ rMs := List.mem_of_getElem? (i := 17) rfl
theorem rIn18 : rM18 ∈ rMs := List.mem_of_getElem? (i := 18) rfl
theorem rIn19 : rM19 ∈ rMs := List.mem_of_getElem? (i := 19) rfl
theorem rIn20 : rM20 ∈ rMs := List.mem_of_getElem? (i := 20) rfl
theorem rIn21 : rM21 ∈ rMs := List.mem_of_getElem? (i := 21) rfl
theorem rIn22 : rM22 ∈ rMs := List.mem_of_getElem? (i := 22) rfl
theorem rIn23 : rM23 ∈ rMs := List.mem_of_getElem? (i := 23) rfl
theorem rIn24 : rM24 ∈ rMs := List.mem_of_getElem? (i := 24) rfl
theorem rIn25 : rM25 ∈ rMs := List.mem_of_getElem? (i := 25) rfl
theorem rIn26 : rM26 ∈ rMs := List.mem_of_getElem? (i := 26) rfl
theorem rIn27 : rM27 ∈ rMs := List.mem_of_getElem? (i := 27) rfl
theorem rIn28 : rM28 ∈ rMs := List.mem_of_getElem? (i := 28) rfl
theorem rIn29 : rM29 ∈ rMs := List.mem_of_getElem? (i := 29) rfl
theorem rIn30 : rM30 ∈ rMs := List.mem_of_getElem? (i := 30) rfl
theorem rIn31 : rM31 ∈ rMs := List.mem_of_getElem? (i := 31) rfl
def rSp (M : frMt) : Bool := [202].any (fun k => Nat.beq k M.1)
theorem roAll : rMs.all (fun M => rSp M || frOk1 rMs M) = true := by decide +kernel
theorem rSpL : rMs.filter rSp = [rM8] := rfl
end FRT
