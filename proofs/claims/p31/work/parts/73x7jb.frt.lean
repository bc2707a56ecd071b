/-! FR: tables, by program -/
set_option maxRecDepth 1000000
section FRT
/-- LotBeliefs$JarReader.read -/
def jbM0 : frMt := (31, [], [(12, 18, 0, 100000), (1, 1, 3, 9), (11, 11, 0, 6)], none, [(0, ([(0, .inl [1]), (1, .inl [11])], [])), (6, ([(0, .inl [1]), (1, .inl [11]), (2, .inr false)], [])), (32, ([(0, .inl [1]), (1, .inl [11]), (2, .inr false)], [.inr false, .inl [11], .inl [1]])), (41, ([(0, .inl [1]), (1, .inl [11]), (2, .inr false)], [.inr false, .inr false, .inl [11], .inl [1]])), (56, ([(1, .inl [11])], []))], [(1, 2), (13, 5), (41, 11), (47, 13), (57, 6)], [])
/-- LotBeliefs$Jar.settle -/
def jbM1 : frMt := (18, [], [(16, 18, 0, 100000)], none, [(31, ([(0, .inl [11]), (1, .inr false)], [])), (70, ([(0, .inl [11]), (1, .inr false)], [])), (75, ([(0, .inl [11]), (1, .inr false)], [.inr false])), (101, ([(0, .inl [11]), (1, .inr false), (2, .inr false)], [.inr false, .inr false, .inl [17]])), (104, ([(0, .inl [11]), (1, .inr false), (2, .inr false), (3, .inr false)], [])), (153, ([(0, .inl [11]), (1, .inr false), (2, .inr false), (3, .inr false)], [.inr false, .inr false, .inl [18]])), (160, ([(0, .inl [11]), (1, .inr false)], []))], [(44, 3), (87, 7), (137, 8)], [])
/-- LotBeliefs$Jar.clear -/
def jbM2 : frMt := (16, [], [(12, 12, 0, 100000), (11, 11, 0, 6)], none, [(0, ([(0, .inl [11])], [])), (7, ([(0, .inl [11]), (1, .inr false)], []))], [(2, 4)], [])
/-- LotBeliefs$Jar.leftBy -/
def jbM3 : frMt := (19, [], [], some (.inr true), [(0, ([(0, .inl [11]), (1, .inr false)], [])), (8, ([(0, .inl [11]), (1, .inr false), (2, .inr true), (4, .inr false)], [])), (38, ([(0, .inl [11]), (1, .inr false), (2, .inr true), (4, .inr false)], []))], [], [])
/-- LotBeliefs$Jar.tellAtoms -/
def jbM4 : frMt := (17, [], [(11, 11, 0, 1)], none, [(0, ([(0, .inl [11]), (1, .inr false)], [])), (25, ([], [.inr true, .inl [11]]))], [], [])
/-- LotBeliefs$Tape.goesOn -/
def jbM5 : frMt := (84, [], [], some (.inr false), [(0, ([(0, .inl [1])], [])), (19, ([], [])), (20, ([], [.inr false]))], [], [])
/-- LotBeliefs$Jar.settle -/
def jbM6 : frMt := (18, [], [(13, 13, 0, 100000), (16, 18, 0, 100000)], none, [(0, ([(0, .inl [11])], [])), (2, ([(0, .inl [11]), (1, .inr false)], [])), (31, ([(0, .inl [11]), (1, .inr false)], [])), (70, ([(0, .inl [11]), (1, .inr false)], [])), (75, ([(0, .inl [11]), (1, .inr false)], [.inr false])), (101, ([(0, .inl [11]), (1, .inr false), (2, .inr false)], [.inr false, .inr false, .inl [17]])), (104, ([(0, .inl [11]), (1, .inr false), (2, .inr false), (3, .inr false)], [])), (153, ([(0, .inl [11]), (1, .inr false), (2, .inr false), (3, .inr false)], [.inr false, .inr false, .inl [18]])), (160, ([(0, .inl [11]), (1, .inr false)], []))], [(19, 9), (44, 3), (87, 7), (137, 8)], [])
/-- LotBeliefs$Jar.deadIn -/
def jbM7 : frMt := (20, [], [], some (.inr false), [(0, ([(0, .inl [11]), (1, .inr false)], [])), (4, ([(0, .inl [11]), (1, .inr false), (2, .inr false), (3, .inr false)], [])), (34, ([(0, .inl [11]), (1, .inr false), (2, .inr false), (3, .inr false)], []))], [], [])
/-- LotBeliefs$Jar.foesIn -/
def jbM8 : frMt := (21, [], [], some (.inr false), [(0, ([(0, .inl [11]), (1, .inr false), (2, .inr false)], [])), (5, ([(0, .inl [11]), (1, .inr false), (2, .inr false), (3, .inr false), (4, .inr false)], [])), (30, ([(0, .inl [11]), (1, .inr false), (2, .inr false), (3, .inr false), (4, .inr false)], []))], [(17, 10)], [])
/-- Long.bitCount -/
def jbM9 : frMt := (329, [], [], some (.inr false), [(0, ([(0, .inr true)], []))], [], [])
/-- LotBeliefs$Jar.apart -/
def jbM10 : frMt := (27, [], [], some (.inr false), [(0, ([(0, .inl [11]), (1, .inr false), (2, .inr false), (3, .inr false)], [])), (30, ([], [.inr false]))], [], [])
/-- LotBeliefs$JarReader.readClause -/
def jbM11 : frMt := (32, [], [(12, 12, 0, 100000), (14, 15, 0, 100000), (1, 1, 3, 9), (11, 11, 0, 6)], none, [(0, ([(0, .inl [1]), (1, .inl [11]), (2, .inr false), (3, .inr false)], [])), (114, ([], []))], [(3, 12), (12, 14), (21, 15), (30, 18), (39, 19), (48, 24), (57, 25), (66, 28), (75, 29), (84, 33), (93, 34), (103, 38), (111, 21)], [])
/-- LotBeliefs$Tape.isWord -/
def jbM12 : frMt := (85, [], [], some (.inr false), [(0, ([(0, .inl [1]), (1, .inl [1000001])], [])), (24, ([], [])), (28, ([(0, .inl [1]), (1, .inl [1000001]), (2, .inr false)], [])), (80, ([], []))], [], [])
/-- LotBeliefs$Tape.takeSign -/
def jbM13 : frMt := (90, [], [(1, 1, 3, 6), (1, 1, 8, 9)], none, [(0, ([(0, .inl [1]), (1, .inr false)], [])), (20, ([], []))], [(2, 16), (9, 20), (17, 21)], [])
/-- LotBeliefs$JarReader.readSlip -/
def jbM14 : frMt := (37, [], [(12, 12, 0, 100000), (1, 1, 3, 9), (11, 11, 2, 2)], none, [(0, ([(0, .inl [1]), (1, .inl [11]), (2, .inr false)], [])), (14, ([(0, .inl [1]), (1, .inl [11])], [.inl [1]])), (19, ([(0, .inl [1]), (1, .inl [11])], [.inr false, .inl [1]])), (49, ([], []))], [(19, 17), (35, 22)], [])
/-- LotBeliefs$Tape.isWord -/
def jbM15 : frMt := (85, [], [], some (.inr false), [(0, ([(0, .inl [1]), (1, .inl [1000007])], [])), (24, ([], [])), (28, ([(0, .inl [1]), (1, .inl [1000007]), (2, .inr false)], [])), (80, ([], []))], [], [])
/-- LotBeliefs$Tape.isSign -/
def jbM16 : frMt := (86, [], [], some (.inr false), [(0, ([(0, .inl [1]), (1, .inr false)], [])), (20, ([], [])), (21, ([], [.inr false]))], [], [])
/-- LotBeliefs$JarReader.begins -/
def jbM17 : frMt := (33, [], [(1, 1, 3, 6), (1, 1, 8, 9)], some (.inr false), [(0, ([(0, .inl [1]), (1, .inr false)], [])), (16, ([(1, .inr false)], [])), (25, ([], [.inr false]))], [(6, 21), (13, 20)], [])
/-- LotBeliefs$JarReader.readSeeing -/
def jbM18 : frMt := (39, [], [(14, 15, 0, 100000), (1, 1, 3, 9), (11, 11, 3, 3)], none, [(0, ([(0, .inl [1]), (1, .inl [11]), (2, .inr false)], [])), (14, ([(0, .inl [1]), (1, .inl [11])], [.inl [1]])), (19, ([(0, .inl [1]), (1, .inl [11])], [.inr false, .inl [1]])), (65, ([], []))], [(19, 17), (37, 23), (51, 22)], [])
/-- LotBeliefs$Tape.isWord -/
def jbM19 : frMt := (85, [], [], some (.inr false), [(0, ([(0, .inl [1]), (1, .inl [1000008])], [])), (24, ([], [])), (28, ([(0, .inl [1]), (1, .inl [1000008]), (2, .inr false)], [])), (80, ([], []))], [], [])
/-- LotBeliefs$Tape.step -/
def jbM20 : frMt := (83, [], [(1, 1, 3, 6)], none, [(0, ([(0, .inl [1])], [])), (14, ([(0, .inl [1]), (1, .inr false)], [])), (39, ([(0, .inl [1]), (1, .inr false)], [])), (67, ([(0, .inl [1]), (1, .inr false)], [.inr false, .inl [1]])), (109, ([(0, .inl [1]), (1, .inr false)], [])), (145, ([(0, .inl [1]), (1, .inr false)], [])), (173, ([(0, .inl [1]), (1, .inr false)], [])), (235, ([(0, .inl [1]), (1, .inr false)], [])), (243, ([(0, .inl [1]), (1, .inr false)], []))], [], [])
/-- LotBeliefs$Tape.fail -/
def jbM21 : frMt := (89, [], [(1, 1, 3, 3), (1, 1, 8, 9)], none, [(0, ([(0, .inl [1]), (1, .inr false)], [])), (26, ([], []))], [], [])
/-- LotBeliefs$Sentence.readEither -/
def jbM22 : frMt := (41, [], [(1, 1, 3, 9)], some (.inr true), [(0, ([(0, .inl [1]), (1, .inl [11])], [])), (9, ([(0, .inl [1]), (1, .inl [11]), (2, .inr true), (4, .inr false)], [])), (44, ([(2, .inr true)], []))], [(2, 26), (20, 30), (27, 20), (33, 26)], [])
/-- LotBeliefs$Tape.takeNumber -/
def jbM23 : frMt := (92, [], [(1, 1, 3, 6), (1, 1, 8, 9)], some (.inr false), [(0, ([(0, .inl [1]), (1, .inr false), (2, .inr false)], [])), (34, ([(0, .inl [1]), (3, .inr false)], [])), (51, ([(3, .inr false)], []))], [(12, 21), (36, 21), (48, 20)], [])
/-- LotBeliefs$JarReader.readSalt -/
def jbM24 : frMt := (38, [], [(12, 12, 0, 100000), (1, 1, 3, 9), (11, 11, 4, 4)], none, [(0, ([(0, .inl [1]), (1, .inl [11]), (2, .inr false)], [])), (13, ([(0, .inl [1]), (1, .inl [11])], [.inl [1]])), (18, ([(0, .inl [1]), (1, .inl [11])], [.inr false, .inl [1]])), (51, ([], []))], [(18, 17), (37, 22)], [])
/-- LotBeliefs$Tape.isWord -/
def jbM25 : frMt := (85, [], [], some (.inr false), [(0, ([(0, .inl [1]), (1, .inl [1000009])], [])), (24, ([], [])), (28, ([(0, .inl [1]), (1, .inl [1000009]), (2, .inr false)], [])), (80, ([], []))], [], [])
/-- LotBeliefs$Sentence.readEach -/
def jbM26 : frMt := (42, [], [(1, 1, 3, 9)], some (.inr true), [(0, ([(0, .inl [1]), (1, .inl [11])], [])), (9, ([(0, .inl [1]), (1, .inl [11]), (2, .inr true), (4, .inr false)], [])), (44, ([(2, .inr true)], []))], [(2, 27), (20, 32), (27, 20), (33, 27)], [])
/-- LotBeliefs$Sentence.readPart -/
def jbM27 : frMt := (43, [], [(1, 1, 3, 9)], some (.inr true), [(0, ([(0, .inl [1]), (1, .inl [11])], []))], [(3, 31), (11, 35), (18, 36), (26, 39), (33, 16), (41, 40), (47, 41)], [])
/-- LotBeliefs$JarReader.readWorld -/
def jbM28 : frMt := (35, [], [(1, 1, 3, 6), (1, 1, 8, 9), (11, 11, 5, 5)], none, [(0, ([(0, .inl [1]), (1, .inl [11]), (2, .inr false)], [])), (25, ([], []))], [(2, 17), (19, 23)], [])
/-- LotBeliefs$Tape.isWord -/
def jbM29 : frMt := (85, [], [], some (.inr false), [(0, ([(0, .inl [1]), (1, .inl [1000010])], [])), (24, ([], [])), (28, ([(0, .inl [1]), (1, .inl [1000010]), (2, .inr false)], [])), (80, ([], []))], [], [])
/-- LotBeliefs$Tape.isWord -/
def jbM30 : frMt := (85, [], [], some (.inr false), [(0, ([(0, .inl [1]), (1, .inl [1000006])], [])), (24, ([], [])), (28, ([(0, .inl [1]), (1, .inl [1000006]), (2, .inr false)], [])), (80, ([], []))], [], [])
/-- LotBeliefs$Tape.isWord -/
def jbM31 : frMt := (85, [], [], some (.inr false), [(0, ([(0, .inl [1]), (1, .inl [1000002])], [])), (24, ([], [])), (28, ([(0, .inl [1]), (1, .inl [1000002]), (2, .inr false)], [])), (80, ([], []))], [], [])
/-- LotBeliefs$Tape.isWord -/
def jbM32 : frMt := (85, [], [], some (.inr false), [(0, ([(0, .inl [1]), (1, .inl [1000005])], [])), (24, ([], [])), (28, ([(0, .inl [1]), (1, .inl [1000005]), (2, .inr false)], [])), (80, ([], []))], [], [])
/-- LotBeliefs$JarReader.readLaw -/
def jbM33 : frMt := (36, [], [(1, 1, 3, 6), (1, 1, 8, 9), (11, 11, 6, 6)], none, [(0, ([(0, .inl [1]), (1, .inl [11]), (2, .inr false)], [])), (18, ([], []))], [(2, 17), (12, 23)], [])
/-- LotBeliefs$Tape.isWord -/
def jbM34 : frMt := (85, [], [], some (.inr false), [(0, ([(0, .inl [1]), (1, .inl [1000011])], [])), (24, ([], [])), (28, ([(0, .inl [1]), (1, .inl [1000011]), (2, .inr false)], [])), (80, ([], []))], [], [])
/-- LotBeliefs$Sentence.readNot -/
def jbM35 : frMt := (44, [], [(1, 1, 3, 9)], some (.inr true), [(0, ([(0, .inl [1]), (1, .inl [11])], []))], [(1, 37), (11, 27), (25, 42)], [])
/-- LotBeliefs$Tape.isWord -/
def jbM36 : frMt := (85, [], [], some (.inr false), [(0, ([(0, .inl [1]), (1, .inl [1000003])], [])), (24, ([], [])), (28, ([(0, .inl [1]), (1, .inl [1000003]), (2, .inr false)], [])), (80, ([], []))], [], [])
/-- LotBeliefs$Tape.opens -/
def jbM37 : frMt := (93, [], [(1, 1, 3, 9)], some (.inr false), [(0, ([(0, .inl [1])], []))], [(11, 21), (27, 20)], [])
/-- LotBeliefs$JarReader.readAtoms -/
def jbM38 : frMt := (34, [], [(1, 1, 3, 6), (1, 1, 8, 9), (11, 11, 0, 1)], none, [(0, ([(0, .inl [1]), (1, .inl [11]), (2, .inr false), (3, .inr false)], [])), (16, ([(0, .inl [1]), (1, .inl [11]), (2, .inr false)], [])), (35, ([], []))], [(10, 21), (18, 17), (29, 23), (32, 4)], [])
/-- LotBeliefs$Sentence.readIf -/
def jbM39 : frMt := (45, [], [(1, 1, 3, 9)], some (.inr true), [(0, ([(0, .inl [1]), (1, .inl [11])], []))], [(1, 37), (11, 27), (27, 43), (33, 27), (39, 42)], [])
/-- LotBeliefs$Sentence.readBrackets -/
def jbM40 : frMt := (46, [], [(1, 1, 3, 9)], some (.inr true), [(0, ([(0, .inl [1]), (1, .inl [11])], []))], [(1, 37), (11, 22), (18, 13), (22, 42)], [])
/-- LotBeliefs$Sentence.readAtom -/
def jbM41 : frMt := (47, [], [(1, 1, 3, 6), (1, 1, 8, 9)], some (.inr true), [(0, ([(0, .inl [1]), (1, .inl [11])], [])), (17, ([(0, .inl [1])], []))], [(1, 44), (19, 21), (25, 20), (29, 46)], [])
/-- LotBeliefs$Tape.shuts -/
def jbM42 : frMt := (94, [], [(1, 1, 7, 7)], none, [(0, ([(0, .inl [1])], []))], [], [])
/-- LotBeliefs$Tape.takeWord -/
def jbM43 : frMt := (91, [], [(1, 1, 3, 6), (1, 1, 8, 9)], none, [(0, ([(0, .inl [1]), (1, .inl [1000004])], [])), (20, ([], []))], [(2, 45), (9, 20), (17, 21)], [])
/-- LotBeliefs$Tape.letter -/
def jbM44 : frMt := (88, [], [], some (.inr false), [(0, ([(0, .inl [1])], [])), (31, ([], [])), (32, ([], [.inr false]))], [], [])
/-- LotBeliefs$Tape.isWord -/
def jbM45 : frMt := (85, [], [], some (.inr false), [(0, ([(0, .inl [1]), (1, .inl [1000004])], [])), (24, ([], [])), (28, ([(0, .inl [1]), (1, .inl [1000004]), (2, .inr false)], [])), (80, ([], []))], [], [])
/-- LotBeliefs$Jar.atomModels -/
def jbM46 : frMt := (24, [], [], some (.inr true), [(0, ([(0, .inr false)], []))], [], [])
def jbMs : List frMt := [jbM0, jbM1, jbM2, jbM3, jbM4, jbM5, jbM6, jbM7, jbM8, jbM9, jbM10, jbM11, jbM12, jbM13, jbM14, jbM15, jbM16, jbM17, jbM18, jbM19, jbM20, jbM21, jbM22, jbM23, jbM24, jbM25, jbM26, jbM27, jbM28, jbM29, jbM30, jbM31, jbM32, jbM33, jbM34, jbM35, jbM36, jbM37, jbM38, jbM39, jbM40, jbM41, jbM42, jbM43, jbM44, jbM45, jbM46]
theorem jbIn0 : jbM0 ∈ jbMs := List.mem_of_getElem? (i := 0) rfl
theorem jbIn1 : jbM1 ∈ jbMs := List.mem_of_getElem? (i := 1) rfl
theorem jbIn2 : jbM2 ∈ jbMs := List.mem_of_getElem? (i := 2) rfl
theorem jbIn3 : jbM3 ∈ jbMs := List.mem_of_getElem? (i := 3) rfl
theorem jbIn4 : jbM4 ∈ jbMs := List.mem_of_getElem? (i := 4) rfl
theorem jbIn5 : jbM5 ∈ jbMs := List.mem_of_getElem? (i := 5) rfl
theorem jbIn6 : jbM6 ∈ jbMs := List.mem_of_getElem? (i := 6) rfl
theorem jbIn7 : jbM7 ∈ jbMs := List.mem_of_getElem? (i := 7) rfl
theorem jbIn8 : jbM8 ∈ jbMs := List.mem_of_getElem? (i := 8) rfl
theorem jbIn9 : jbM9 ∈ jbMs := List.mem_of_getElem? (i := 9) rfl
theorem jbIn10 : jbM10 ∈ jbMs := List.mem_of_getElem? (i := 10) rfl
theorem jbIn11 : jbM11 ∈ jbMs := List.mem_of_getElem? (i := 11) rfl
theorem jbIn12 : jbM12 ∈ jbMs := List.mem_of_getElem? (i := 12) rfl
theorem jbIn13 : jbM13 ∈ jbMs := List.mem_of_getElem? (i := 13) rfl
theorem jbIn14 : jbM14 ∈ jbMs := List.mem_of_getElem? (i := 14) rfl
theorem jbIn15 : jbM15 ∈ jbMs := List.mem_of_getElem? (i := 15) rfl
theorem jbIn16 : jbM16 ∈ jbMs := List.mem_of_getElem? (i := 16) rfl
theorem jbIn17 : jbM17 ∈ jbMs := List.mem_of_getElem? (i := 17) rfl
theorem jbIn18 : jbM18 ∈ jbMs := List.mem_of_getElem? (i := 18) rfl
theorem jbIn19 : jbM19 ∈ jbMs := List.mem_of_getElem? (i := 19) rfl
theorem jbIn20 : jbM20 ∈ jbMs := List.mem_of_getElem? (i := 20) rfl
theorem jbIn21 : jbM21 ∈ jbMs := List.mem_of_getElem? (i := 21) rfl
theorem jbIn22 : jbM22 ∈ jbMs := List.mem_of_getElem? (i := 22) rfl
theorem jbIn23 : jbM23 ∈ jbMs := List.mem_of_getElem? (i := 23) rfl
theorem jbIn24 : jbM24 ∈ jbMs := List.mem_of_getElem? (i := 24) rfl
theorem jbIn25 : jbM25 ∈ jbMs := List.mem_of_getElem? (i := 25) rfl
theorem jbIn26 : jbM26 ∈ jbMs := List.mem_of_getElem? (i := 26) rfl
theorem jbIn27 : jbM27 ∈ jbMs := List.mem_of_getElem? (i := 27) rfl
theorem jbIn28 : jbM28 ∈ jbMs := List.mem_of_getElem? (i := 28) rfl
theorem jbIn29 : jbM29 ∈ jbMs := List.mem_of_getElem? (i := 29) rfl
theorem jbIn30 : jbM30 ∈ jbMs := List.mem_of_getElem? (i := 30) rfl
theorem jbIn31 : jbM31 ∈ jbMs := List.mem_of_getElem? (i := 31) rfl
theorem jbIn32 : jbM32 ∈ jbMs := List.mem_of_getElem? (i := 32) rfl
theorem jbIn33 : jbM33 ∈ jbMs := List.mem_of_getElem? (i := 33) rfl
theorem jbIn34 : jbM34 ∈ jbMs := List.mem_of_getElem? (i := 34) rfl
theorem jbIn35 : jbM35 ∈ jbMs := List.mem_of_getElem? (i := 35) rfl
theorem jbIn36 : jbM36 ∈ jbMs := List.mem_of_getElem? (i := 36) rfl
theorem jbIn37 : jbM37 ∈ jbMs := List.mem_of_getElem? (i := 37) rfl
theorem jbIn38 : jbM38 ∈ jbMs := List.mem_of_getElem? (i := 38) rfl
theorem jbIn39 : jbM39 ∈ jbMs := List.mem_of_getElem? (i := 39) rfl
theorem jbIn40 : jbM40 ∈ jbMs := List.mem_of_getElem? (i := 40) rfl
theorem jbIn41 : jbM41 ∈ jbMs := List.mem_of_getElem? (i := 41) rfl
theorem jbIn42 : jbM42 ∈ jbMs := List.mem_of_getElem? (i := 42) rfl
theorem jbIn43 : jbM43 ∈ jbMs := List.mem_of_getElem? (i := 43) rfl
theorem jbIn44 : jbM44 ∈ jbMs := List.mem_of_getElem? (i := 44) rfl
theorem jbIn45 : jbM45 ∈ jbMs := List.mem_of_getElem? (i := 45) rfl
theorem jbIn46 : jbM46 ∈ jbMs := List.mem_of_getElem? (i := 46) rfl
theorem jboAll : frAll jbMs = true := by decide +kernel
end FRT
