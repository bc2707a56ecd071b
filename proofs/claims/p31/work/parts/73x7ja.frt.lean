/-! FR: tables, by program -/
set_option maxRecDepth 1000000
section FRT
/-- LotBeliefs$JarReader.read -/
def jaM0 : frMt := (31, [], [(4, 10, 0, 100000), (1, 1, 3, 9), (3, 3, 0, 6)], none, [(0, ([(0, .inl [1]), (1, .inl [3])], [])), (6, ([(0, .inl [1]), (1, .inl [3]), (2, .inr false)], [])), (32, ([(0, .inl [1]), (1, .inl [3]), (2, .inr false)], [.inr false, .inl [3], .inl [1]])), (41, ([(0, .inl [1]), (1, .inl [3]), (2, .inr false)], [.inr false, .inr false, .inl [3], .inl [1]])), (56, ([(1, .inl [3])], []))], [(1, 2), (13, 5), (41, 11), (47, 13), (57, 6)], [])
/-- LotBeliefs$Jar.settle -/
def jaM1 : frMt := (18, [], [(8, 10, 0, 100000)], none, [(31, ([(0, .inl [3]), (1, .inr false)], [])), (70, ([(0, .inl [3]), (1, .inr false)], [])), (75, ([(0, .inl [3]), (1, .inr false)], [.inr false])), (101, ([(0, .inl [3]), (1, .inr false), (2, .inr false)], [.inr false, .inr false, .inl [9]])), (104, ([(0, .inl [3]), (1, .inr false), (2, .inr false), (3, .inr false)], [])), (153, ([(0, .inl [3]), (1, .inr false), (2, .inr false), (3, .inr false)], [.inr false, .inr false, .inl [10]])), (160, ([(0, .inl [3]), (1, .inr false)], []))], [(44, 3), (87, 7), (137, 8)], [])
/-- LotBeliefs$Jar.clear -/
def jaM2 : frMt := (16, [], [(4, 4, 0, 100000), (3, 3, 0, 6)], none, [(0, ([(0, .inl [3])], [])), (7, ([(0, .inl [3]), (1, .inr false)], []))], [(2, 4)], [])
/-- LotBeliefs$Jar.leftBy -/
def jaM3 : frMt := (19, [], [], some (.inr true), [(0, ([(0, .inl [3]), (1, .inr false)], [])), (8, ([(0, .inl [3]), (1, .inr false), (2, .inr true), (4, .inr false)], [])), (38, ([(0, .inl [3]), (1, .inr false), (2, .inr true), (4, .inr false)], []))], [], [])
/-- LotBeliefs$Jar.tellAtoms -/
def jaM4 : frMt := (17, [], [(3, 3, 0, 1)], none, [(0, ([(0, .inl [3]), (1, .inr false)], [])), (25, ([], [.inr true, .inl [3]]))], [], [])
/-- LotBeliefs$Tape.goesOn -/
def jaM5 : frMt := (84, [], [], some (.inr false), [(0, ([(0, .inl [1])], [])), (19, ([], [])), (20, ([], [.inr false]))], [], [])
/-- LotBeliefs$Jar.settle -/
def jaM6 : frMt := (18, [], [(5, 5, 0, 100000), (8, 10, 0, 100000)], none, [(0, ([(0, .inl [3])], [])), (2, ([(0, .inl [3]), (1, .inr false)], [])), (31, ([(0, .inl [3]), (1, .inr false)], [])), (70, ([(0, .inl [3]), (1, .inr false)], [])), (75, ([(0, .inl [3]), (1, .inr false)], [.inr false])), (101, ([(0, .inl [3]), (1, .inr false), (2, .inr false)], [.inr false, .inr false, .inl [9]])), (104, ([(0, .inl [3]), (1, .inr false), (2, .inr false), (3, .inr false)], [])), (153, ([(0, .inl [3]), (1, .inr false), (2, .inr false), (3, .inr false)], [.inr false, .inr false, .inl [10]])), (160, ([(0, .inl [3]), (1, .inr false)], []))], [(19, 9), (44, 3), (87, 7), (137, 8)], [])
/-- LotBeliefs$Jar.deadIn -/
def jaM7 : frMt := (20, [], [], some (.inr false), [(0, ([(0, .inl [3]), (1, .inr false)], [])), (4, ([(0, .inl [3]), (1, .inr false), (2, .inr false), (3, .inr false)], [])), (34, ([(0, .inl [3]), (1, .inr false), (2, .inr false), (3, .inr false)], []))], [], [])
/-- LotBeliefs$Jar.foesIn -/
def jaM8 : frMt := (21, [], [], some (.inr false), [(0, ([(0, .inl [3]), (1, .inr false), (2, .inr false)], [])), (5, ([(0, .inl [3]), (1, .inr false), (2, .inr false), (3, .inr false), (4, .inr false)], [])), (30, ([(0, .inl [3]), (1, .inr false), (2, .inr false), (3, .inr false), (4, .inr false)], []))], [(17, 10)], [])
/-- Long.bitCount -/
def jaM9 : frMt := (329, [], [], some (.inr false), [(0, ([(0, .inr true)], []))], [], [])
/-- LotBeliefs$Jar.apart -/
def jaM10 : frMt := (27, [], [], some (.inr false), [(0, ([(0, .inl [3]), (1, .inr false), (2, .inr false), (3, .inr false)], [])), (30, ([], [.inr false]))], [], [])
/-- LotBeliefs$JarReader.readClause -/
def jaM11 : frMt := (32, [], [(4, 4, 0, 100000), (6, 7, 0, 100000), (1, 1, 3, 9), (3, 3, 0, 6)], none, [(0, ([(0, .inl [1]), (1, .inl [3]), (2, .inr false), (3, .inr false)], [])), (114, ([], []))], [(3, 12), (12, 14), (21, 15), (30, 18), (39, 19), (48, 24), (57, 25), (66, 28), (75, 29), (84, 33), (93, 34), (103, 38), (111, 21)], [])
/-- LotBeliefs$Tape.isWord -/
def jaM12 : frMt := (85, [], [], some (.inr false), [(0, ([(0, .inl [1]), (1, .inl [1000001])], [])), (24, ([], [])), (28, ([(0, .inl [1]), (1, .inl [1000001]), (2, .inr false)], [])), (80, ([], []))], [], [])
/-- LotBeliefs$Tape.takeSign -/
def jaM13 : frMt := (90, [], [(1, 1, 3, 6), (1, 1, 8, 9)], none, [(0, ([(0, .inl [1]), (1, .inr false)], [])), (20, ([], []))], [(2, 16), (9, 20), (17, 21)], [])
/-- LotBeliefs$JarReader.readSlip -/
def jaM14 : frMt := (37, [], [(4, 4, 0, 100000), (1, 1, 3, 9), (3, 3, 2, 2)], none, [(0, ([(0, .inl [1]), (1, .inl [3]), (2, .inr false)], [])), (14, ([(0, .inl [1]), (1, .inl [3])], [.inl [1]])), (19, ([(0, .inl [1]), (1, .inl [3])], [.inr false, .inl [1]])), (49, ([], []))], [(19, 17), (35, 22)], [])
/-- LotBeliefs$Tape.isWord -/
def jaM15 : frMt := (85, [], [], some (.inr false), [(0, ([(0, .inl [1]), (1, .inl [1000007])], [])), (24, ([], [])), (28, ([(0, .inl [1]), (1, .inl [1000007]), (2, .inr false)], [])), (80, ([], []))], [], [])
/-- LotBeliefs$Tape.isSign -/
def jaM16 : frMt := (86, [], [], some (.inr false), [(0, ([(0, .inl [1]), (1, .inr false)], [])), (20, ([], [])), (21, ([], [.inr false]))], [], [])
/-- LotBeliefs$JarReader.begins -/
def jaM17 : frMt := (33, [], [(1, 1, 3, 6), (1, 1, 8, 9)], some (.inr false), [(0, ([(0, .inl [1]), (1, .inr false)], [])), (16, ([(1, .inr false)], [])), (25, ([], [.inr false]))], [(6, 21), (13, 20)], [])
/-- LotBeliefs$JarReader.readSeeing -/
def jaM18 : frMt := (39, [], [(6, 7, 0, 100000), (1, 1, 3, 9), (3, 3, 3, 3)], none, [(0, ([(0, .inl [1]), (1, .inl [3]), (2, .inr false)], [])), (14, ([(0, .inl [1]), (1, .inl [3])], [.inl [1]])), (19, ([(0, .inl [1]), (1, .inl [3])], [.inr false, .inl [1]])), (65, ([], []))], [(19, 17), (37, 23), (51, 22)], [])
/-- LotBeliefs$Tape.isWord -/
def jaM19 : frMt := (85, [], [], some (.inr false), [(0, ([(0, .inl [1]), (1, .inl [1000008])], [])), (24, ([], [])), (28, ([(0, .inl [1]), (1, .inl [1000008]), (2, .inr false)], [])), (80, ([], []))], [], [])
/-- LotBeliefs$Tape.step -/
def jaM20 : frMt := (83, [], [(1, 1, 3, 6)], none, [(0, ([(0, .inl [1])], [])), (14, ([(0, .inl [1]), (1, .inr false)], [])), (39, ([(0, .inl [1]), (1, .inr false)], [])), (67, ([(0, .inl [1]), (1, .inr false)], [.inr false, .inl [1]])), (109, ([(0, .inl [1]), (1, .inr false)], [])), (145, ([(0, .inl [1]), (1, .inr false)], [])), (173, ([(0, .inl [1]), (1, .inr false)], [])), (235, ([(0, .inl [1]), (1, .inr false)], [])), (243, ([(0, .inl [1]), (1, .inr false)], []))], [], [])
/-- LotBeliefs$Tape.fail -/
def jaM21 : frMt := (89, [], [(1, 1, 3, 3), (1, 1, 8, 9)], none, [(0, ([(0, .inl [1]), (1, .inr false)], [])), (26, ([], []))], [], [])
/-- LotBeliefs$Sentence.readEither -/
def jaM22 : frMt := (41, [], [(1, 1, 3, 9)], some (.inr true), [(0, ([(0, .inl [1]), (1, .inl [3])], [])), (9, ([(0, .inl [1]), (1, .inl [3]), (2, .inr true), (4, .inr false)], [])), (44, ([(2, .inr true)], []))], [(2, 26), (20, 30), (27, 20), (33, 26)], [])
/-- LotBeliefs$Tape.takeNumber -/
def jaM23 : frMt := (92, [], [(1, 1, 3, 6), (1, 1, 8, 9)], some (.inr false), [(0, ([(0, .inl [1]), (1, .inr false), (2, .inr false)], [])), (34, ([(0, .inl [1]), (3, .inr false)], [])), (51, ([(3, .inr false)], []))], [(12, 21), (36, 21), (48, 20)], [])
/-- LotBeliefs$JarReader.readSalt -/
def jaM24 : frMt := (38, [], [(4, 4, 0, 100000), (1, 1, 3, 9), (3, 3, 4, 4)], none, [(0, ([(0, .inl [1]), (1, .inl [3]), (2, .inr false)], [])), (13, ([(0, .inl [1]), (1, .inl [3])], [.inl [1]])), (18, ([(0, .inl [1]), (1, .inl [3])], [.inr false, .inl [1]])), (51, ([], []))], [(18, 17), (37, 22)], [])
/-- LotBeliefs$Tape.isWord -/
def jaM25 : frMt := (85, [], [], some (.inr false), [(0, ([(0, .inl [1]), (1, .inl [1000009])], [])), (24, ([], [])), (28, ([(0, .inl [1]), (1, .inl [1000009]), (2, .inr false)], [])), (80, ([], []))], [], [])
/-- LotBeliefs$Sentence.readEach -/
def jaM26 : frMt := (42, [], [(1, 1, 3, 9)], some (.inr true), [(0, ([(0, .inl [1]), (1, .inl [3])], [])), (9, ([(0, .inl [1]), (1, .inl [3]), (2, .inr true), (4, .inr false)], [])), (44, ([(2, .inr true)], []))], [(2, 27), (20, 32), (27, 20), (33, 27)], [])
/-- LotBeliefs$Sentence.readPart -/
def jaM27 : frMt := (43, [], [(1, 1, 3, 9)], some (.inr true), [(0, ([(0, .inl [1]), (1, .inl [3])], []))], [(3, 31), (11, 35), (18, 36), (26, 39), (33, 16), (41, 40), (47, 41)], [])
/-- LotBeliefs$JarReader.readWorld -/
def jaM28 : frMt := (35, [], [(1, 1, 3, 6), (1, 1, 8, 9), (3, 3, 5, 5)], none, [(0, ([(0, .inl [1]), (1, .inl [3]), (2, .inr false)], [])), (25, ([], []))], [(2, 17), (19, 23)], [])
/-- LotBeliefs$Tape.isWord -/
def jaM29 : frMt := (85, [], [], some (.inr false), [(0, ([(0, .inl [1]), (1, .inl [1000010])], [])), (24, ([], [])), (28, ([(0, .inl [1]), (1, .inl [1000010]), (2, .inr false)], [])), (80, ([], []))], [], [])
/-- LotBeliefs$Tape.isWord -/
def jaM30 : frMt := (85, [], [], some (.inr false), [(0, ([(0, .inl [1]), (1, .inl [1000006])], [])), (24, ([], [])), (28, ([(0, .inl [1]), (1, .inl [1000006]), (2, .inr false)], [])), (80, ([], []))], [], [])
/-- LotBeliefs$Tape.isWord -/
def jaM31 : frMt := (85, [], [], some (.inr false), [(0, ([(0, .inl [1]), (1, .inl [1000002])], [])), (24, ([], [])), (28, ([(0, .inl [1]), (1, .inl [1000002]), (2, .inr false)], [])), (80, ([], []))], [], [])
/-- LotBeliefs$Tape.isWord -/
def jaM32 : frMt := (85, [], [], some (.inr false), [(0, ([(0, .inl [1]), (1, .inl [1000005])], [])), (24, ([], [])), (28, ([(0, .inl [1]), (1, .inl [1000005]), (2, .inr false)], [])), (80, ([], []))], [], [])
/-- LotBeliefs$JarReader.readLaw -/
def jaM33 : frMt := (36, [], [(1, 1, 3, 6), (1, 1, 8, 9), (3, 3, 6, 6)], none, [(0, ([(0, .inl [1]), (1, .inl [3]), (2, .inr false)], [])), (18, ([], []))], [(2, 17), (12, 23)], [])
/-- LotBeliefs$Tape.isWord -/
def jaM34 : frMt := (85, [], [], some (.inr false), [(0, ([(0, .inl [1]), (1, .inl [1000011])], [])), (24, ([], [])), (28, ([(0, .inl [1]), (1, .inl [1000011]), (2, .inr false)], [])), (80, ([], []))], [], [])
/-- LotBeliefs$Sentence.readNot -/
def jaM35 : frMt := (44, [], [(1, 1, 3, 9)], some (.inr true), [(0, ([(0, .inl [1]), (1, .inl [3])], []))], [(1, 37), (11, 27), (25, 42)], [])
/-- LotBeliefs$Tape.isWord -/
def jaM36 : frMt := (85, [], [], some (.inr false), [(0, ([(0, .inl [1]), (1, .inl [1000003])], [])), (24, ([], [])), (28, ([(0, .inl [1]), (1, .inl [1000003]), (2, .inr false)], [])), (80, ([], []))], [], [])
/-- LotBeliefs$Tape.opens -/
def jaM37 : frMt := (93, [], [(1, 1, 3, 9)], some (.inr false), [(0, ([(0, .inl [1])], []))], [(11, 21), (27, 20)], [])
/-- LotBeliefs$JarReader.readAtoms -/
def jaM38 : frMt := (34, [], [(1, 1, 3, 6), (1, 1, 8, 9), (3, 3, 0, 1)], none, [(0, ([(0, .inl [1]), (1, .inl [3]), (2, .inr false), (3, .inr false)], [])), (16, ([(0, .inl [1]), (1, .inl [3]), (2, .inr false)], [])), (35, ([], []))], [(10, 21), (18, 17), (29, 23), (32, 4)], [])
/-- LotBeliefs$Sentence.readIf -/
def jaM39 : frMt := (45, [], [(1, 1, 3, 9)], some (.inr true), [(0, ([(0, .inl [1]), (1, .inl [3])], []))], [(1, 37), (11, 27), (27, 43), (33, 27), (39, 42)], [])
/-- LotBeliefs$Sentence.readBrackets -/
def jaM40 : frMt := (46, [], [(1, 1, 3, 9)], some (.inr true), [(0, ([(0, .inl [1]), (1, .inl [3])], []))], [(1, 37), (11, 22), (18, 13), (22, 42)], [])
/-- LotBeliefs$Sentence.readAtom -/
def jaM41 : frMt := (47, [], [(1, 1, 3, 6), (1, 1, 8, 9)], some (.inr true), [(0, ([(0, .inl [1]), (1, .inl [3])], [])), (17, ([(0, .inl [1])], []))], [(1, 44), (19, 21), (25, 20), (29, 46)], [])
/-- LotBeliefs$Tape.shuts -/
def jaM42 : frMt := (94, [], [(1, 1, 7, 7)], none, [(0, ([(0, .inl [1])], []))], [], [])
/-- LotBeliefs$Tape.takeWord -/
def jaM43 : frMt := (91, [], [(1, 1, 3, 6), (1, 1, 8, 9)], none, [(0, ([(0, .inl [1]), (1, .inl [1000004])], [])), (20, ([], []))], [(2, 45), (9, 20), (17, 21)], [])
/-- LotBeliefs$Tape.letter -/
def jaM44 : frMt := (88, [], [], some (.inr false), [(0, ([(0, .inl [1])], [])), (31, ([], [])), (32, ([], [.inr false]))], [], [])
/-- LotBeliefs$Tape.isWord -/
def jaM45 : frMt := (85, [], [], some (.inr false), [(0, ([(0, .inl [1]), (1, .inl [1000004])], [])), (24, ([], [])), (28, ([(0, .inl [1]), (1, .inl [1000004]), (2, .inr false)], [])), (80, ([], []))], [], [])
/-- LotBeliefs$Jar.atomModels -/
def jaM46 : frMt := (24, [], [], some (.inr true), [(0, ([(0, .inr false)], []))], [], [])
def jaMs : List frMt := [jaM0, jaM1, jaM2, jaM3, jaM4, jaM5, jaM6, jaM7, jaM8, jaM9, jaM10, jaM11, jaM12, jaM13, jaM14, jaM15, jaM16, jaM17, jaM18, jaM19, jaM20, jaM21, jaM22, jaM23, jaM24, jaM25, jaM26, jaM27, jaM28, jaM29, jaM30, jaM31, jaM32, jaM33, jaM34, jaM35, jaM36, jaM37, jaM38, jaM39, jaM40, jaM41, jaM42, jaM43, jaM44, jaM45, jaM46]
theorem jaIn0 : jaM0 ∈ jaMs := List.mem_of_getElem? (i := 0) rfl
theorem jaIn1 : jaM1 ∈ jaMs := List.mem_of_getElem? (i := 1) rfl
theorem jaIn2 : jaM2 ∈ jaMs := List.mem_of_getElem? (i := 2) rfl
theorem jaIn3 : jaM3 ∈ jaMs := List.mem_of_getElem? (i := 3) rfl
theorem jaIn4 : jaM4 ∈ jaMs := List.mem_of_getElem? (i := 4) rfl
theorem jaIn5 : jaM5 ∈ jaMs := List.mem_of_getElem? (i := 5) rfl
theorem jaIn6 : jaM6 ∈ jaMs := List.mem_of_getElem? (i := 6) rfl
theorem jaIn7 : jaM7 ∈ jaMs := List.mem_of_getElem? (i := 7) rfl
theorem jaIn8 : jaM8 ∈ jaMs := List.mem_of_getElem? (i := 8) rfl
theorem jaIn9 : jaM9 ∈ jaMs := List.mem_of_getElem? (i := 9) rfl
theorem jaIn10 : jaM10 ∈ jaMs := List.mem_of_getElem? (i := 10) rfl
theorem jaIn11 : jaM11 ∈ jaMs := List.mem_of_getElem? (i := 11) rfl
theorem jaIn12 : jaM12 ∈ jaMs := List.mem_of_getElem? (i := 12) rfl
theorem jaIn13 : jaM13 ∈ jaMs := List.mem_of_getElem? (i := 13) rfl
theorem jaIn14 : jaM14 ∈ jaMs := List.mem_of_getElem? (i := 14) rfl
theorem jaIn15 : jaM15 ∈ jaMs := List.mem_of_getElem? (i := 15) rfl
theorem jaIn16 : jaM16 ∈ jaMs := List.mem_of_getElem? (i := 16) rfl
theorem jaIn17 : jaM17 ∈ jaMs := List.mem_of_getElem? (i := 17) rfl
theorem jaIn18 : jaM18 ∈ jaMs := List.mem_of_getElem? (i := 18) rfl
theorem jaIn19 : jaM19 ∈ jaMs := List.mem_of_getElem? (i := 19) rfl
theorem jaIn20 : jaM20 ∈ jaMs := List.mem_of_getElem? (i := 20) rfl
theorem jaIn21 : jaM21 ∈ jaMs := List.mem_of_getElem? (i := 21) rfl
theorem jaIn22 : jaM22 ∈ jaMs := List.mem_of_getElem? (i := 22) rfl
theorem jaIn23 : jaM23 ∈ jaMs := List.mem_of_getElem? (i := 23) rfl
theorem jaIn24 : jaM24 ∈ jaMs := List.mem_of_getElem? (i := 24) rfl
theorem jaIn25 : jaM25 ∈ jaMs := List.mem_of_getElem? (i := 25) rfl
theorem jaIn26 : jaM26 ∈ jaMs := List.mem_of_getElem? (i := 26) rfl
theorem jaIn27 : jaM27 ∈ jaMs := List.mem_of_getElem? (i := 27) rfl
theorem jaIn28 : jaM28 ∈ jaMs := List.mem_of_getElem? (i := 28) rfl
theorem jaIn29 : jaM29 ∈ jaMs := List.mem_of_getElem? (i := 29) rfl
theorem jaIn30 : jaM30 ∈ jaMs := List.mem_of_getElem? (i := 30) rfl
theorem jaIn31 : jaM31 ∈ jaMs := List.mem_of_getElem? (i := 31) rfl
theorem jaIn32 : jaM32 ∈ jaMs := List.mem_of_getElem? (i := 32) rfl
theorem jaIn33 : jaM33 ∈ jaMs := List.mem_of_getElem? (i := 33) rfl
theorem jaIn34 : jaM34 ∈ jaMs := List.mem_of_getElem? (i := 34) rfl
theorem jaIn35 : jaM35 ∈ jaMs := List.mem_of_getElem? (i := 35) rfl
theorem jaIn36 : jaM36 ∈ jaMs := List.mem_of_getElem? (i := 36) rfl
theorem jaIn37 : jaM37 ∈ jaMs := List.mem_of_getElem? (i := 37) rfl
theorem jaIn38 : jaM38 ∈ jaMs := List.mem_of_getElem? (i := 38) rfl
theorem jaIn39 : jaM39 ∈ jaMs := List.mem_of_getElem? (i := 39) rfl
theorem jaIn40 : jaM40 ∈ jaMs := List.mem_of_getElem? (i := 40) rfl
theorem jaIn41 : jaM41 ∈ jaMs := List.mem_of_getElem? (i := 41) rfl
theorem jaIn42 : jaM42 ∈ jaMs := List.mem_of_getElem? (i := 42) rfl
theorem jaIn43 : jaM43 ∈ jaMs := List.mem_of_getElem? (i := 43) rfl
theorem jaIn44 : jaM44 ∈ jaMs := List.mem_of_getElem? (i := 44) rfl
theorem jaIn45 : jaM45 ∈ jaMs := List.mem_of_getElem? (i := 45) rfl
theorem jaIn46 : jaM46 ∈ jaMs := List.mem_of_getElem? (i := 46) rfl
theorem jaoAll : frAll jaMs = true := by decide +kernel
end FRT
