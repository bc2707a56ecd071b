/-! FR: tables, by program -/
set_option maxRecDepth 1000000
section FRT
/-- LotBeliefs$JarReader.read -/
def cM0 : frMt := (31, [], [(4, 10, 0, 100000), (12, 18, 0, 100000), (1, 1, 7, 7), (3, 3, 0, 6), (11, 11, 0, 6)], none, [(0, ([(0, .inl [1]), (1, .inl [3, 11])], [])), (6, ([(0, .inl [1]), (1, .inl [3, 11]), (2, .inr false)], [])), (32, ([(0, .inl [1]), (1, .inl [3, 11]), (2, .inr false)], [.inr false, .inl [3, 11], .inl [1]])), (41, ([(0, .inl [1]), (1, .inl [3, 11]), (2, .inr false)], [.inr false, .inr false, .inl [3, 11], .inl [1]])), (56, ([(1, .inl [3, 11])], []))], [(1, 3), (13, 8), (41, 15), (47, 26), (57, 9)], [])
/-- LotBeliefs$TongueReader.read -/
def cM1 : frMt := (102, [], [(20, 20, 0, 100000), (24, 24, 0, 100000), (1, 1, 7, 7), (19, 19, 0, 0), (19, 19, 2, 2), (23, 23, 0, 0), (23, 23, 2, 2)], none, [(0, ([(0, .inl [1]), (1, .inl [19, 23])], [])), (6, ([(0, .inl [1]), (1, .inl [19, 23]), (2, .inr false)], [])), (89, ([(0, .inl [1]), (1, .inl [19, 23]), (2, .inr false)], [])), (95, ([], []))], [(1, 4), (14, 8), (21, 16), (32, 17), (49, 17), (56, 19), (61, 29), (67, 26), (76, 39)], [])
/-- LotBeliefs$Sentence.readAlone -/
def cM2 : frMt := (40, [], [(1, 1, 7, 7)], some (.inr true), [(0, ([(0, .inl [1]), (1, .inl [3, 11])], [])), (18, ([(2, .inr true)], []))], [(2, 5), (7, 8), (15, 17)], [])
/-- LotBeliefs$Jar.clear -/
def cM3 : frMt := (16, [], [(4, 4, 0, 100000), (12, 12, 0, 100000), (3, 3, 0, 6), (11, 11, 0, 6)], none, [(0, ([(0, .inl [3, 11])], [])), (7, ([(0, .inl [3, 11]), (1, .inr false)], []))], [(2, 6)], [])
/-- LotBeliefs$Tongue.clear -/
def cM4 : frMt := (96, [], [(19, 19, 0, 0), (19, 19, 2, 2), (23, 23, 0, 0), (23, 23, 2, 2)], none, [(0, ([(0, .inl [19, 23])], []))], [], [])
/-- LotBeliefs$Sentence.readEither -/
def cM5 : frMt := (41, [], [(1, 1, 7, 7)], some (.inr true), [(0, ([(0, .inl [1]), (1, .inl [3, 11])], [])), (9, ([(0, .inl [1]), (1, .inl [3, 11]), (2, .inr true), (4, .inr false)], [])), (44, ([(2, .inr true)], []))], [(2, 7), (20, 11), (27, 19), (33, 7)], [])
/-- LotBeliefs$Jar.tellAtoms -/
def cM6 : frMt := (17, [], [(3, 3, 0, 1), (11, 11, 0, 1)], none, [(0, ([(0, .inl [3, 11]), (1, .inr false)], [])), (25, ([], [.inr true, .inl [3, 11]]))], [], [])
/-- LotBeliefs$Sentence.readEach -/
def cM7 : frMt := (42, [], [(1, 1, 7, 7)], some (.inr true), [(0, ([(0, .inl [1]), (1, .inl [3, 11])], [])), (9, ([(0, .inl [1]), (1, .inl [3, 11]), (2, .inr true), (4, .inr false)], [])), (44, ([(2, .inr true)], []))], [(2, 10), (20, 18), (27, 19), (33, 10)], [])
/-- LotBeliefs$Tape.goesOn -/
def cM8 : frMt := (84, [], [], some (.inr false), [(0, ([(0, .inl [1])], [])), (19, ([], [])), (20, ([], [.inr false]))], [], [])
/-- LotBeliefs$Jar.settle -/
def cM9 : frMt := (18, [], [(5, 5, 0, 100000), (8, 10, 0, 100000), (13, 13, 0, 100000), (16, 18, 0, 100000)], none, [(0, ([(0, .inl [3, 11])], [])), (2, ([(0, .inl [3, 11]), (1, .inr false)], [])), (31, ([(0, .inl [3, 11]), (1, .inr false)], [])), (70, ([(0, .inl [3, 11]), (1, .inr false)], [])), (75, ([(0, .inl [3, 11]), (1, .inr false)], [.inr false])), (101, ([(0, .inl [3, 11]), (1, .inr false), (2, .inr false)], [.inr false, .inr false, .inl [9, 17]])), (104, ([(0, .inl [3, 11]), (1, .inr false), (2, .inr false), (3, .inr false)], [])), (153, ([(0, .inl [3, 11]), (1, .inr false), (2, .inr false), (3, .inr false)], [.inr false, .inr false, .inl [10, 18]])), (160, ([(0, .inl [3, 11]), (1, .inr false)], []))], [(19, 12), (44, 13), (87, 20), (137, 21)], [])
/-- LotBeliefs$Sentence.readPart -/
def cM10 : frMt := (43, [], [(1, 1, 7, 7)], some (.inr true), [(0, ([(0, .inl [1]), (1, .inl [3, 11])], []))], [(3, 14), (11, 22), (18, 23), (26, 30), (33, 31), (41, 40), (47, 41)], [])
/-- LotBeliefs$Tape.isWord -/
def cM11 : frMt := (85, [], [], some (.inr false), [(0, ([(0, .inl [1]), (1, .inl [1000006])], [])), (24, ([], [])), (28, ([(0, .inl [1]), (1, .inl [1000006]), (2, .inr false)], [])), (80, ([], []))], [], [])
/-- Long.bitCount -/
def cM12 : frMt := (329, [], [], some (.inr false), [(0, ([(0, .inr true)], []))], [], [])
/-- LotBeliefs$Jar.leftBy -/
def cM13 : frMt := (19, [], [], some (.inr true), [(0, ([(0, .inl [3, 11]), (1, .inr false)], [])), (8, ([(0, .inl [3, 11]), (1, .inr false), (2, .inr true), (4, .inr false)], [])), (38, ([(0, .inl [3, 11]), (1, .inr false), (2, .inr true), (4, .inr false)], []))], [], [])
/-- LotBeliefs$Tape.isWord -/
def cM14 : frMt := (85, [], [], some (.inr false), [(0, ([(0, .inl [1]), (1, .inl [1000002])], [])), (24, ([], [])), (28, ([(0, .inl [1]), (1, .inl [1000002]), (2, .inr false)], [])), (80, ([], []))], [], [])
/-- LotBeliefs$JarReader.readClause -/
def cM15 : frMt := (32, [], [(4, 4, 0, 100000), (6, 7, 0, 100000), (12, 12, 0, 100000), (14, 15, 0, 100000), (1, 1, 7, 7), (3, 3, 0, 6), (11, 11, 0, 6)], none, [(0, ([(0, .inl [1]), (1, .inl [3, 11]), (2, .inr false), (3, .inr false)], [])), (114, ([], []))], [(3, 24), (12, 32), (21, 33), (30, 42), (39, 43), (48, 51), (57, 52), (66, 56), (75, 57), (84, 60), (93, 61), (103, 64), (111, 17)], [])
/-- LotBeliefs$TongueReader.whoHere -/
def cM16 : frMt := (103, [], [], some (.inr false), [(0, ([(0, .inl [1])], [])), (36, ([], [.inr false]))], [(3, 25), (14, 34), (25, 44)], [])
/-- LotBeliefs$Tape.fail -/
def cM17 : frMt := (89, [], [], none, [(0, ([(0, .inl [1]), (1, .inr false)], []))], [], [])
/-- LotBeliefs$Tape.isWord -/
def cM18 : frMt := (85, [], [], some (.inr false), [(0, ([(0, .inl [1]), (1, .inl [1000005])], [])), (24, ([], [])), (28, ([(0, .inl [1]), (1, .inl [1000005]), (2, .inr false)], [])), (80, ([], []))], [], [])
/-- LotBeliefs$Tape.step -/
def cM19 : frMt := (83, [], [], none, [(0, ([(0, .inl [1])], []))], [], [])
/-- LotBeliefs$Jar.deadIn -/
def cM20 : frMt := (20, [], [], some (.inr false), [(0, ([(0, .inl [3, 11]), (1, .inr false)], [])), (4, ([(0, .inl [3, 11]), (1, .inr false), (2, .inr false), (3, .inr false)], [])), (34, ([(0, .inl [3, 11]), (1, .inr false), (2, .inr false), (3, .inr false)], []))], [], [])
/-- LotBeliefs$Jar.foesIn -/
def cM21 : frMt := (21, [], [], some (.inr false), [(0, ([(0, .inl [3, 11]), (1, .inr false), (2, .inr false)], [])), (5, ([(0, .inl [3, 11]), (1, .inr false), (2, .inr false), (3, .inr false), (4, .inr false)], [])), (30, ([(0, .inl [3, 11]), (1, .inr false), (2, .inr false), (3, .inr false), (4, .inr false)], []))], [(17, 27)], [])
/-- LotBeliefs$Sentence.readNot -/
def cM22 : frMt := (44, [], [(1, 1, 7, 7)], some (.inr true), [(0, ([(0, .inl [1]), (1, .inl [3, 11])], []))], [(1, 28), (11, 10), (25, 35)], [])
/-- LotBeliefs$Tape.isWord -/
def cM23 : frMt := (85, [], [], some (.inr false), [(0, ([(0, .inl [1]), (1, .inl [1000003])], [])), (24, ([], [])), (28, ([(0, .inl [1]), (1, .inl [1000003]), (2, .inr false)], [])), (80, ([], []))], [], [])
/-- LotBeliefs$Tape.isWord -/
def cM24 : frMt := (85, [], [], some (.inr false), [(0, ([(0, .inl [1]), (1, .inl [1000001])], [])), (24, ([], [])), (28, ([(0, .inl [1]), (1, .inl [1000001]), (2, .inr false)], [])), (80, ([], []))], [], [])
/-- LotBeliefs$Tape.isWord -/
def cM25 : frMt := (85, [], [], some (.inr false), [(0, ([(0, .inl [1]), (1, .inl [1000012])], [])), (24, ([], [])), (28, ([(0, .inl [1]), (1, .inl [1000012]), (2, .inr false)], [])), (80, ([], []))], [], [])
/-- LotBeliefs$Tape.takeSign -/
def cM26 : frMt := (90, [], [], none, [(0, ([(0, .inl [1]), (1, .inr false)], [])), (20, ([], []))], [(2, 31), (9, 19), (17, 17)], [])
/-- LotBeliefs$Jar.apart -/
def cM27 : frMt := (27, [], [], some (.inr false), [(0, ([(0, .inl [3, 11]), (1, .inr false), (2, .inr false), (3, .inr false)], [])), (30, ([], [.inr false]))], [], [])
/-- LotBeliefs$Tape.opens -/
def cM28 : frMt := (93, [], [(1, 1, 7, 7)], some (.inr false), [(0, ([(0, .inl [1])], []))], [(11, 17), (27, 19)], [])
/-- LotBeliefs$TongueReader.readEither -/
def cM29 : frMt := (104, [], [(20, 20, 0, 100000), (24, 24, 0, 100000), (1, 1, 7, 7), (19, 19, 2, 2), (23, 23, 2, 2)], none, [(0, ([(0, .inl [1]), (1, .inl [19, 23])], [])), (7, ([(0, .inl [1]), (1, .inl [19, 23]), (2, .inr false)], [])), (45, ([], []))], [(2, 36), (17, 47), (24, 19), (29, 36), (36, 39)], [])
/-- LotBeliefs$Sentence.readIf -/
def cM30 : frMt := (45, [], [(1, 1, 7, 7)], some (.inr true), [(0, ([(0, .inl [1]), (1, .inl [3, 11])], []))], [(1, 28), (11, 10), (27, 37), (33, 10), (39, 35)], [])
/-- LotBeliefs$Tape.isSign -/
def cM31 : frMt := (86, [], [], some (.inr false), [(0, ([(0, .inl [1]), (1, .inr false)], [])), (20, ([], [])), (21, ([], [.inr false]))], [], [])
/-- LotBeliefs$JarReader.readSlip -/
def cM32 : frMt := (37, [], [(4, 4, 0, 100000), (12, 12, 0, 100000), (1, 1, 7, 7), (3, 3, 2, 2), (11, 11, 2, 2)], none, [(0, ([(0, .inl [1]), (1, .inl [3, 11]), (2, .inr false)], [])), (14, ([(0, .inl [1]), (1, .inl [3, 11])], [.inl [1]])), (19, ([(0, .inl [1]), (1, .inl [3, 11])], [.inr false, .inl [1]])), (49, ([], []))], [(19, 38), (35, 5)], [])
/-- LotBeliefs$Tape.isWord -/
def cM33 : frMt := (85, [], [], some (.inr false), [(0, ([(0, .inl [1]), (1, .inl [1000007])], [])), (24, ([], [])), (28, ([(0, .inl [1]), (1, .inl [1000007]), (2, .inr false)], [])), (80, ([], []))], [], [])
/-- LotBeliefs$Tape.isWord -/
def cM34 : frMt := (85, [], [], some (.inr false), [(0, ([(0, .inl [1]), (1, .inl [1000013])], [])), (24, ([], [])), (28, ([(0, .inl [1]), (1, .inl [1000013]), (2, .inr false)], [])), (80, ([], []))], [], [])
/-- LotBeliefs$Tape.shuts -/
def cM35 : frMt := (94, [], [(1, 1, 7, 7)], none, [(0, ([(0, .inl [1])], []))], [], [])
/-- LotBeliefs$TongueReader.readEach -/
def cM36 : frMt := (105, [], [(20, 20, 0, 100000), (24, 24, 0, 100000), (1, 1, 7, 7), (19, 19, 2, 2), (23, 23, 2, 2)], none, [(0, ([(0, .inl [1]), (1, .inl [19, 23])], [])), (7, ([(0, .inl [1]), (1, .inl [19, 23]), (2, .inr false)], [])), (45, ([], []))], [(2, 45), (17, 53), (24, 19), (29, 45), (36, 39)], [])
/-- LotBeliefs$Tape.takeWord -/
def cM37 : frMt := (91, [], [], none, [(0, ([(0, .inl [1]), (1, .inl [1000004])], [])), (20, ([], []))], [(2, 46), (9, 19), (17, 17)], [])
/-- LotBeliefs$JarReader.begins -/
def cM38 : frMt := (33, [], [], some (.inr false), [(0, ([(0, .inl [1]), (1, .inr false)], [])), (16, ([(1, .inr false)], [])), (25, ([], [.inr false]))], [(6, 17), (13, 19)], [])
/-- LotBeliefs$Tongue.add -/
def cM39 : frMt := (97, [], [(20, 20, 0, 100000), (24, 24, 0, 100000), (19, 19, 2, 2), (23, 23, 2, 2)], none, [(0, ([(0, .inl [19, 23]), (1, .inr false)], [])), (32, ([], []))], [], [])
/-- LotBeliefs$Sentence.readBrackets -/
def cM40 : frMt := (46, [], [(1, 1, 7, 7)], some (.inr true), [(0, ([(0, .inl [1]), (1, .inl [3, 11])], []))], [(1, 28), (11, 5), (18, 26), (22, 35)], [])
/-- LotBeliefs$Sentence.readAtom -/
def cM41 : frMt := (47, [], [], some (.inr true), [(0, ([(0, .inl [1]), (1, .inl [3, 11])], [])), (17, ([(0, .inl [1])], []))], [(1, 48), (19, 17), (25, 19), (29, 54)], [])
/-- LotBeliefs$JarReader.readSeeing -/
def cM42 : frMt := (39, [], [(6, 7, 0, 100000), (14, 15, 0, 100000), (1, 1, 7, 7), (3, 3, 3, 3), (11, 11, 3, 3)], none, [(0, ([(0, .inl [1]), (1, .inl [3, 11]), (2, .inr false)], [])), (14, ([(0, .inl [1]), (1, .inl [3, 11])], [.inl [1]])), (19, ([(0, .inl [1]), (1, .inl [3, 11])], [.inr false, .inl [1]])), (65, ([], []))], [(19, 38), (37, 49), (51, 5)], [])
/-- LotBeliefs$Tape.isWord -/
def cM43 : frMt := (85, [], [], some (.inr false), [(0, ([(0, .inl [1]), (1, .inl [1000008])], [])), (24, ([], [])), (28, ([(0, .inl [1]), (1, .inl [1000008]), (2, .inr false)], [])), (80, ([], []))], [], [])
/-- LotBeliefs$Tape.isWord -/
def cM44 : frMt := (85, [], [], some (.inr false), [(0, ([(0, .inl [1]), (1, .inl [1000014])], [])), (24, ([], [])), (28, ([(0, .inl [1]), (1, .inl [1000014]), (2, .inr false)], [])), (80, ([], []))], [], [])
/-- LotBeliefs$TongueReader.readPart -/
def cM45 : frMt := (106, [], [(20, 20, 0, 100000), (24, 24, 0, 100000), (1, 1, 7, 7), (19, 19, 2, 2), (23, 23, 2, 2)], none, [(0, ([(0, .inl [1]), (1, .inl [19, 23])], [])), (74, ([], []))], [(3, 50), (10, 28), (18, 45), (22, 35), (29, 39), (38, 31), (45, 28), (53, 29), (59, 26), (63, 35), (71, 55)], [])
/-- LotBeliefs$Tape.isWord -/
def cM46 : frMt := (85, [], [], some (.inr false), [(0, ([(0, .inl [1]), (1, .inl [1000004])], [])), (24, ([], [])), (28, ([(0, .inl [1]), (1, .inl [1000004]), (2, .inr false)], [])), (80, ([], []))], [], [])
/-- LotBeliefs$Tape.isWord -/
def cM47 : frMt := (85, [], [], some (.inr false), [(0, ([(0, .inl [1]), (1, .inl [1000027])], [])), (24, ([], [])), (28, ([(0, .inl [1]), (1, .inl [1000027]), (2, .inr false)], [])), (80, ([], []))], [], [])
/-- LotBeliefs$Tape.letter -/
def cM48 : frMt := (88, [], [], some (.inr false), [(0, ([(0, .inl [1])], [])), (31, ([], [])), (32, ([], [.inr false]))], [], [])
/-- LotBeliefs$Tape.takeNumber -/
def cM49 : frMt := (92, [], [], some (.inr false), [(0, ([(0, .inl [1]), (1, .inr false), (2, .inr false)], [])), (34, ([(0, .inl [1]), (3, .inr false)], [])), (51, ([(3, .inr false)], []))], [(12, 17), (36, 17), (48, 19)], [])
/-- LotBeliefs$Tape.isWord -/
def cM50 : frMt := (85, [], [], some (.inr false), [(0, ([(0, .inl [1]), (1, .inl [1000015])], [])), (24, ([], [])), (28, ([(0, .inl [1]), (1, .inl [1000015]), (2, .inr false)], [])), (80, ([], []))], [], [])
/-- LotBeliefs$JarReader.readSalt -/
def cM51 : frMt := (38, [], [(4, 4, 0, 100000), (12, 12, 0, 100000), (1, 1, 7, 7), (3, 3, 4, 4), (11, 11, 4, 4)], none, [(0, ([(0, .inl [1]), (1, .inl [3, 11]), (2, .inr false)], [])), (13, ([(0, .inl [1]), (1, .inl [3, 11])], [.inl [1]])), (18, ([(0, .inl [1]), (1, .inl [3, 11])], [.inr false, .inl [1]])), (51, ([], []))], [(18, 38), (37, 5)], [])
/-- LotBeliefs$Tape.isWord -/
def cM52 : frMt := (85, [], [], some (.inr false), [(0, ([(0, .inl [1]), (1, .inl [1000009])], [])), (24, ([], [])), (28, ([(0, .inl [1]), (1, .inl [1000009]), (2, .inr false)], [])), (80, ([], []))], [], [])
/-- LotBeliefs$Tape.isWord -/
def cM53 : frMt := (85, [], [], some (.inr false), [(0, ([(0, .inl [1]), (1, .inl [1000026])], [])), (24, ([], [])), (28, ([(0, .inl [1]), (1, .inl [1000026]), (2, .inr false)], [])), (80, ([], []))], [], [])
/-- LotBeliefs$Jar.atomModels -/
def cM54 : frMt := (24, [], [], some (.inr true), [(0, ([(0, .inr false)], []))], [], [])
/-- LotBeliefs$TongueReader.readRelation -/
def cM55 : frMt := (107, [], [(20, 20, 0, 100000), (24, 24, 0, 100000), (1, 1, 7, 7), (19, 19, 2, 2), (23, 23, 2, 2)], none, [(0, ([(0, .inl [1]), (1, .inl [19, 23])], [])), (55, ([(0, .inl [1]), (1, .inl [19, 23]), (2, .inr false)], []))], [(2, 58), (12, 31), (28, 31), (44, 31), (52, 17), (56, 19), (61, 58), (66, 39)], [])
/-- LotBeliefs$JarReader.readWorld -/
def cM56 : frMt := (35, [], [(3, 3, 5, 5), (11, 11, 5, 5)], none, [(0, ([(0, .inl [1]), (1, .inl [3, 11]), (2, .inr false)], [])), (25, ([], []))], [(2, 38), (19, 49)], [])
/-- LotBeliefs$Tape.isWord -/
def cM57 : frMt := (85, [], [], some (.inr false), [(0, ([(0, .inl [1]), (1, .inl [1000010])], [])), (24, ([], [])), (28, ([(0, .inl [1]), (1, .inl [1000010]), (2, .inr false)], [])), (80, ([], []))], [], [])
/-- LotBeliefs$TongueReader.readSum -/
def cM58 : frMt := (108, [], [(20, 20, 0, 100000), (24, 24, 0, 100000), (1, 1, 7, 7), (19, 19, 2, 2), (23, 23, 2, 2)], none, [(0, ([(0, .inl [1]), (1, .inl [19, 23])], [])), (7, ([(0, .inl [1]), (1, .inl [19, 23]), (2, .inr false)], [])), (32, ([(0, .inl [1]), (1, .inl [19, 23]), (2, .inr false)], [])), (50, ([(0, .inl [1]), (1, .inl [19, 23]), (2, .inr false)], [.inr false])), (71, ([], []))], [(2, 59), (17, 31), (26, 31), (35, 31), (52, 19), (57, 59), (62, 39)], [])
/-- LotBeliefs$TongueReader.readProduct -/
def cM59 : frMt := (109, [], [(20, 20, 0, 100000), (24, 24, 0, 100000), (1, 1, 7, 7), (19, 19, 2, 2), (23, 23, 2, 2)], none, [(0, ([(0, .inl [1]), (1, .inl [19, 23])], [])), (7, ([(0, .inl [1]), (1, .inl [19, 23]), (2, .inr false)], [])), (45, ([], []))], [(2, 62), (17, 31), (24, 19), (29, 62), (36, 39)], [])
/-- LotBeliefs$JarReader.readLaw -/
def cM60 : frMt := (36, [], [(3, 3, 6, 6), (11, 11, 6, 6)], none, [(0, ([(0, .inl [1]), (1, .inl [3, 11]), (2, .inr false)], [])), (18, ([], []))], [(2, 38), (12, 49)], [])
/-- LotBeliefs$Tape.isWord -/
def cM61 : frMt := (85, [], [], some (.inr false), [(0, ([(0, .inl [1]), (1, .inl [1000011])], [])), (24, ([], [])), (28, ([(0, .inl [1]), (1, .inl [1000011]), (2, .inr false)], [])), (80, ([], []))], [], [])
/-- LotBeliefs$TongueReader.readValue -/
def cM62 : frMt := (110, [], [(20, 20, 0, 100000), (24, 24, 0, 100000), (1, 1, 7, 7), (19, 19, 2, 2), (23, 23, 2, 2)], none, [(0, ([(0, .inl [1]), (1, .inl [19, 23])], [])), (71, ([(0, .inl [1]), (1, .inl [19, 23]), (2, .inr false)], [])), (84, ([], []))], [(3, 31), (10, 28), (18, 58), (24, 26), (28, 35), (35, 63), (47, 49), (50, 39), (57, 65), (68, 17), (72, 19), (81, 39)], [])
/-- LotBeliefs$Tape.isNumber -/
def cM63 : frMt := (87, [], [], some (.inr false), [(0, ([(0, .inl [1])], [])), (13, ([], [.inr false]))], [], [])
/-- LotBeliefs$JarReader.readAtoms -/
def cM64 : frMt := (34, [], [(3, 3, 0, 1), (11, 11, 0, 1)], none, [(0, ([(0, .inl [1]), (1, .inl [3, 11]), (2, .inr false), (3, .inr false)], [])), (16, ([(0, .inl [1]), (1, .inl [3, 11]), (2, .inr false)], [])), (35, ([], []))], [(10, 17), (18, 38), (29, 49), (32, 6)], [])
/-- LotBeliefs$TongueReader.quantityHere -/
def cM65 : frMt := (111, [], [], some (.inr false), [(0, ([(0, .inl [1])], [])), (117, ([], [.inr false]))], [(3, 66), (14, 67), (25, 68), (36, 69), (47, 70), (58, 71), (69, 72), (81, 73), (93, 74), (105, 75)], [])
/-- LotBeliefs$Tape.isWord -/
def cM66 : frMt := (85, [], [], some (.inr false), [(0, ([(0, .inl [1]), (1, .inl [1000016])], [])), (24, ([], [])), (28, ([(0, .inl [1]), (1, .inl [1000016]), (2, .inr false)], [])), (80, ([], []))], [], [])
/-- LotBeliefs$Tape.isWord -/
def cM67 : frMt := (85, [], [], some (.inr false), [(0, ([(0, .inl [1]), (1, .inl [1000017])], [])), (24, ([], [])), (28, ([(0, .inl [1]), (1, .inl [1000017]), (2, .inr false)], [])), (80, ([], []))], [], [])
/-- LotBeliefs$Tape.isWord -/
def cM68 : frMt := (85, [], [], some (.inr false), [(0, ([(0, .inl [1]), (1, .inl [1000018])], [])), (24, ([], [])), (28, ([(0, .inl [1]), (1, .inl [1000018]), (2, .inr false)], [])), (80, ([], []))], [], [])
/-- LotBeliefs$Tape.isWord -/
def cM69 : frMt := (85, [], [], some (.inr false), [(0, ([(0, .inl [1]), (1, .inl [1000019])], [])), (24, ([], [])), (28, ([(0, .inl [1]), (1, .inl [1000019]), (2, .inr false)], [])), (80, ([], []))], [], [])
/-- LotBeliefs$Tape.isWord -/
def cM70 : frMt := (85, [], [], some (.inr false), [(0, ([(0, .inl [1]), (1, .inl [1000020])], [])), (24, ([], [])), (28, ([(0, .inl [1]), (1, .inl [1000020]), (2, .inr false)], [])), (80, ([], []))], [], [])
/-- LotBeliefs$Tape.isWord -/
def cM71 : frMt := (85, [], [], some (.inr false), [(0, ([(0, .inl [1]), (1, .inl [1000021])], [])), (24, ([], [])), (28, ([(0, .inl [1]), (1, .inl [1000021]), (2, .inr false)], [])), (80, ([], []))], [], [])
/-- LotBeliefs$Tape.isWord -/
def cM72 : frMt := (85, [], [], some (.inr false), [(0, ([(0, .inl [1]), (1, .inl [1000022])], [])), (24, ([], [])), (28, ([(0, .inl [1]), (1, .inl [1000022]), (2, .inr false)], [])), (80, ([], []))], [], [])
/-- LotBeliefs$Tape.isWord -/
def cM73 : frMt := (85, [], [], some (.inr false), [(0, ([(0, .inl [1]), (1, .inl [1000023])], [])), (24, ([], [])), (28, ([(0, .inl [1]), (1, .inl [1000023]), (2, .inr false)], [])), (80, ([], []))], [], [])
/-- LotBeliefs$Tape.isWord -/
def cM74 : frMt := (85, [], [], some (.inr false), [(0, ([(0, .inl [1]), (1, .inl [1000024])], [])), (24, ([], [])), (28, ([(0, .inl [1]), (1, .inl [1000024]), (2, .inr false)], [])), (80, ([], []))], [], [])
/-- LotBeliefs$Tape.isWord -/
def cM75 : frMt := (85, [], [], some (.inr false), [(0, ([(0, .inl [1]), (1, .inl [1000025])], [])), (24, ([], [])), (28, ([(0, .inl [1]), (1, .inl [1000025]), (2, .inr false)], [])), (80, ([], []))], [], [])
def cMs : List frMt := [cM0, cM1, cM2, cM3, cM4, cM5, cM6, cM7, cM8, cM9, cM10, cM11, cM12, cM13, cM14, cM15, cM16, cM17, cM18, cM19, cM20, cM21, cM22, cM23, cM24, cM25, cM26, cM27, cM28, cM29, cM30, cM31, cM32, cM33, cM34, cM35, cM36, cM37, cM38, cM39, cM40, cM41, cM42, cM43, cM44, cM45, cM46, cM47, cM48, cM49, cM50, cM51, cM52, cM53, cM54, cM55, cM56, cM57, cM58, cM59, cM60, cM61, cM62, cM63, cM64, cM65, cM66, cM67, cM68, cM69, cM70, cM71, cM72, cM73, cM74, cM75]
theorem cIn0 : cM0 ∈ cMs := List.mem_of_getElem? (i := 0) rfl
theorem cIn1 : cM1 ∈ cMs := List.mem_of_getElem? (i := 1) rfl
theorem cIn2 : cM2 ∈ cMs := List.mem_of_getElem? (i := 2) rfl
theorem cIn3 : cM3 ∈ cMs := List.mem_of_getElem? (i := 3) rfl
theorem cIn4 : cM4 ∈ cMs := List.mem_of_getElem? (i := 4) rfl
theorem cIn5 : cM5 ∈ cMs := List.mem_of_getElem? (i := 5) rfl
theorem cIn6 : cM6 ∈ cMs := List.mem_of_getElem? (i := 6) rfl
theorem cIn7 : cM7 ∈ cMs := List.mem_of_getElem? (i := 7) rfl
theorem cIn8 : cM8 ∈ cMs := List.mem_of_getElem? (i := 8) rfl
theorem cIn9 : cM9 ∈ cMs := List.mem_of_getElem? (i := 9) rfl
theorem cIn10 : cM10 ∈ cMs := List.mem_of_getElem? (i := 10) rfl
theorem cIn11 : cM11 ∈ cMs := List.mem_of_getElem? (i := 11) rfl
theorem cIn12 : cM12 ∈ cMs := List.mem_of_getElem? (i := 12) rfl
theorem cIn13 : cM13 ∈ cMs := List.mem_of_getElem? (i := 13) rfl
theorem cIn14 : cM14 ∈ cMs := List.mem_of_getElem? (i := 14) rfl
theorem cIn15 : cM15 ∈ cMs := List.mem_of_getElem? (i := 15) rfl
theorem cIn16 : cM16 ∈ cMs := List.mem_of_getElem? (i := 16) rfl
theorem cIn17 : cM17 ∈ cMs := List.mem_of_getElem? (i := 17) rfl
theorem cIn18 : cM18 ∈ cMs := List.mem_of_getElem? (i := 18) rfl
theorem cIn19 : cM19 ∈ cMs := List.mem_of_getElem? (i := 19) rfl
theorem cIn20 : cM20 ∈ cMs := List.mem_of_getElem? (i := 20) rfl
theorem cIn21 : cM21 ∈ cMs := List.mem_of_getElem? (i := 21) rfl
theorem cIn22 : cM22 ∈ cMs := List.mem_of_getElem? (i := 22) rfl
theorem cIn23 : cM23 ∈ cMs := List.mem_of_getElem? (i := 23) rfl
theorem cIn24 : cM24 ∈ cMs := List.mem_of_getElem? (i := 24) rfl
theorem cIn25 : cM25 ∈ cMs := List.mem_of_getElem? (i := 25) rfl
theorem cIn26 : cM26 ∈ cMs := List.mem_of_getElem? (i := 26) rfl
theorem cIn27 : cM27 ∈ cMs := List.mem_of_getElem? (i := 27) rfl
theorem cIn28 : cM28 ∈ cMs := List.mem_of_getElem? (i := 28) rfl
theorem cIn29 : cM29 ∈ cMs := List.mem_of_getElem? (i := 29) rfl
theorem cIn30 : cM30 ∈ cMs := List.mem_of_getElem? (i := 30) rfl
theorem cIn31 : cM31 ∈ cMs := List.mem_of_getElem? (i := 31) rfl
theorem cIn32 : cM32 ∈ cMs := List.mem_of_getElem? (i := 32) rfl
theorem cIn33 : cM33 ∈ cMs := List.mem_of_getElem? (i := 33) rfl
theorem cIn34 : cM34 ∈ cMs := List.mem_of_getElem? (i := 34) rfl
theorem cIn35 : cM35 ∈ cMs := List.mem_of_getElem? (i := 35) rfl
theorem cIn36 : cM36 ∈ cMs := List.mem_of_getElem? (i := 36) rfl
theorem cIn37 : cM37 ∈ cMs := List.mem_of_getElem? (i := 37) rfl
theorem cIn38 : cM38 ∈ cMs := List.mem_of_getElem? (i := 38) rfl
theorem cIn39 : cM39 ∈ cMs := List.mem_of_getElem? (i := 39) rfl
theorem cIn40 : cM40 ∈ cMs := List.mem_of_getElem? (i := 40) rfl
theorem cIn41 : cM41 ∈ cMs := List.mem_of_getElem? (i := 41) rfl
theorem cIn42 : cM42 ∈ cMs := List.mem_of_getElem? (i := 42) rfl
theorem cIn43 : cM43 ∈ cMs := List.mem_of_getElem? (i := 43) rfl
theorem cIn44 : cM44 ∈ cMs := List.mem_of_getElem? (i := 44) rfl
theorem cIn45 : cM45 ∈ cMs := List.mem_of_getElem? (i := 45) rfl
theorem cIn46 : cM46 ∈ cMs := List.mem_of_getElem? (i := 46) rfl
theorem cIn47 : cM47 ∈ cMs := List.mem_of_getElem? (i := 47) rfl
theorem cIn48 : cM48 ∈ cMs := List.mem_of_getElem? (i := 48) rfl
theorem cIn49 : cM49 ∈ cMs := List.mem_of_getElem? (i := 49) rfl
theorem cIn50 : cM50 ∈ cMs := List.mem_of_getElem? (i := 50) rfl
theorem cIn51 : cM51 ∈ cMs := List.mem_of_getElem? (i := 51) rfl
theorem cIn52 : cM52 ∈ cMs := List.mem_of_getElem? (i := 52) rfl
theorem cIn53 : cM53 ∈ cMs := List.mem_of_getElem? (i := 53) rfl
theorem cIn54 : cM54 ∈ cMs := List.mem_of_getElem? (i := 54) rfl
theorem cIn55 : cM55 ∈ cMs := List.mem_of_getElem? (i := 55) rfl
theorem cIn56 : cM56 ∈ cMs := List.mem_of_getElem? (i := 56) rfl
theorem cIn57 : cM57 ∈ cMs := List.mem_of_getElem? (i := 57) rfl
theorem cIn58 : cM58 ∈ cMs := List.mem_of_getElem? (i := 58) rfl
theorem cIn59 : cM59 ∈ cMs := List.mem_of_getElem? (i := 59) rfl
theorem cIn60 : cM60 ∈ cMs := List.mem_of_getElem? (i := 60) rfl
theorem cIn61 : cM61 ∈ cMs := List.mem_of_getElem? (i := 61) rfl
theorem cIn62 : cM62 ∈ cMs := List.mem_of_getElem? (i := 62) rfl
theorem cIn63 : cM63 ∈ cMs := List.mem_of_getElem? (i := 63) rfl
theorem cIn64 : cM64 ∈ cMs := List.mem_of_getElem? (i := 64) rfl
theorem cIn65 : cM65 ∈ cMs := List.mem_of_getElem? (i := 65) rfl
theorem cIn66 : cM66 ∈ cMs := List.mem_of_getElem? (i := 66) rfl
theorem cIn67 : cM67 ∈ cMs := List.mem_of_getElem? (i := 67) rfl
theorem cIn68 : cM68 ∈ cMs := List.mem_of_getElem? (i := 68) rfl
theorem cIn69 : cM69 ∈ cMs := List.mem_of_getElem? (i := 69) rfl
theorem cIn70 : cM70 ∈ cMs := List.mem_of_getElem? (i := 70) rfl
theorem cIn71 : cM71 ∈ cMs := List.mem_of_getElem? (i := 71) rfl
theorem cIn72 : cM72 ∈ cMs := List.mem_of_getElem? (i := 72) rfl
theorem cIn73 : cM73 ∈ cMs := List.mem_of_getElem? (i := 73) rfl
theorem cIn74 : cM74 ∈ cMs := List.mem_of_getElem? (i := 74) rfl
theorem cIn75 : cM75 ∈ cMs := List.mem_of_getElem? (i := 75) rfl
def cSp (M : frMt) : Bool := [83, 89].any (fun k => Nat.beq k M.1)
theorem coAll : cMs.all (fun M => cSp M || frOk1 cMs M) = true := by decide +kernel
theorem cSpL : cMs.filter cSp = [cM17, cM19] := rfl
end FRT
