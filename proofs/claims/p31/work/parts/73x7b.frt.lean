/-! FR: tables, by program -/
set_option maxRecDepth 1000000
section FRT
/-- LotBeliefs$TongueReader.read -/
def bM0 : frMt := (102, [], [(24, 24, 0, 100000), (1, 1, 3, 9), (23, 23, 0, 0), (23, 23, 2, 2)], none, [(0, ([(0, .inl [1]), (1, .inl [23])], [])), (6, ([(0, .inl [1]), (1, .inl [23]), (2, .inr false)], [])), (89, ([(0, .inl [1]), (1, .inl [23]), (2, .inr false)], [])), (95, ([], []))], [(1, 1), (14, 2), (21, 3), (32, 5), (49, 5), (56, 6), (61, 8), (67, 11), (76, 16)], [])
/-- LotBeliefs$Tongue.clear -/
def bM1 : frMt := (96, [], [(23, 23, 0, 0), (23, 23, 2, 2)], none, [(0, ([(0, .inl [23])], []))], [], [])
/-- LotBeliefs$Tape.goesOn -/
def bM2 : frMt := (84, [], [], some (.inr false), [(0, ([(0, .inl [1])], [])), (19, ([], [])), (20, ([], [.inr false]))], [], [])
/-- LotBeliefs$TongueReader.whoHere -/
def bM3 : frMt := (103, [], [], some (.inr false), [(0, ([(0, .inl [1])], [])), (36, ([], [.inr false]))], [(3, 4), (14, 7), (25, 9)], [])
/-- LotBeliefs$Tape.isWord -/
def bM4 : frMt := (85, [], [], some (.inr false), [(0, ([(0, .inl [1]), (1, .inl [1000012])], [])), (24, ([], [])), (28, ([(0, .inl [1]), (1, .inl [1000012]), (2, .inr false)], [])), (80, ([], []))], [], [])
/-- LotBeliefs$Tape.fail -/
def bM5 : frMt := (89, [], [(1, 1, 3, 3), (1, 1, 8, 9)], none, [(0, ([(0, .inl [1]), (1, .inr false)], [])), (26, ([], []))], [], [])
/-- LotBeliefs$Tape.step -/
def bM6 : frMt := (83, [], [(1, 1, 3, 6)], none, [(0, ([(0, .inl [1])], [])), (14, ([(0, .inl [1]), (1, .inr false)], [])), (39, ([(0, .inl [1]), (1, .inr false)], [])), (67, ([(0, .inl [1]), (1, .inr false)], [.inr false, .inl [1]])), (109, ([(0, .inl [1]), (1, .inr false)], [])), (145, ([(0, .inl [1]), (1, .inr false)], [])), (173, ([(0, .inl [1]), (1, .inr false)], [])), (235, ([(0, .inl [1]), (1, .inr false)], [])), (243, ([(0, .inl [1]), (1, .inr false)], []))], [], [])
/-- LotBeliefs$Tape.isWord -/
def bM7 : frMt := (85, [], [], some (.inr false), [(0, ([(0, .inl [1]), (1, .inl [1000013])], [])), (24, ([], [])), (28, ([(0, .inl [1]), (1, .inl [1000013]), (2, .inr false)], [])), (80, ([], []))], [], [])
/-- LotBeliefs$TongueReader.readEither -/
def bM8 : frMt := (104, [], [(24, 24, 0, 100000), (1, 1, 3, 9), (23, 23, 2, 2)], none, [(0, ([(0, .inl [1]), (1, .inl [23])], [])), (7, ([(0, .inl [1]), (1, .inl [23]), (2, .inr false)], [])), (45, ([], []))], [(2, 10), (17, 13), (24, 6), (29, 10), (36, 16)], [])
/-- LotBeliefs$Tape.isWord -/
def bM9 : frMt := (85, [], [], some (.inr false), [(0, ([(0, .inl [1]), (1, .inl [1000014])], [])), (24, ([], [])), (28, ([(0, .inl [1]), (1, .inl [1000014]), (2, .inr false)], [])), (80, ([], []))], [], [])
/-- LotBeliefs$TongueReader.readEach -/
def bM10 : frMt := (105, [], [(24, 24, 0, 100000), (1, 1, 3, 9), (23, 23, 2, 2)], none, [(0, ([(0, .inl [1]), (1, .inl [23])], [])), (7, ([(0, .inl [1]), (1, .inl [23]), (2, .inr false)], [])), (45, ([], []))], [(2, 12), (17, 17), (24, 6), (29, 12), (36, 16)], [])
/-- LotBeliefs$Tape.takeSign -/
def bM11 : frMt := (90, [], [(1, 1, 3, 6), (1, 1, 8, 9)], none, [(0, ([(0, .inl [1]), (1, .inr false)], [])), (20, ([], []))], [(2, 14), (9, 6), (17, 5)], [])
/-- LotBeliefs$TongueReader.readPart -/
def bM12 : frMt := (106, [], [(24, 24, 0, 100000), (1, 1, 3, 9), (23, 23, 2, 2)], none, [(0, ([(0, .inl [1]), (1, .inl [23])], [])), (74, ([], []))], [(3, 15), (10, 18), (18, 12), (22, 21), (29, 16), (38, 14), (45, 18), (53, 8), (59, 11), (63, 21), (71, 19)], [])
/-- LotBeliefs$Tape.isWord -/
def bM13 : frMt := (85, [], [], some (.inr false), [(0, ([(0, .inl [1]), (1, .inl [1000027])], [])), (24, ([], [])), (28, ([(0, .inl [1]), (1, .inl [1000027]), (2, .inr false)], [])), (80, ([], []))], [], [])
/-- LotBeliefs$Tape.isSign -/
def bM14 : frMt := (86, [], [], some (.inr false), [(0, ([(0, .inl [1]), (1, .inr false)], [])), (20, ([], [])), (21, ([], [.inr false]))], [], [])
/-- LotBeliefs$Tape.isWord -/
def bM15 : frMt := (85, [], [], some (.inr false), [(0, ([(0, .inl [1]), (1, .inl [1000015])], [])), (24, ([], [])), (28, ([(0, .inl [1]), (1, .inl [1000015]), (2, .inr false)], [])), (80, ([], []))], [], [])
/-- LotBeliefs$Tongue.add -/
def bM16 : frMt := (97, [], [(24, 24, 0, 100000), (23, 23, 2, 2)], none, [(0, ([(0, .inl [23]), (1, .inr false)], [])), (32, ([], []))], [], [])
/-- LotBeliefs$Tape.isWord -/
def bM17 : frMt := (85, [], [], some (.inr false), [(0, ([(0, .inl [1]), (1, .inl [1000026])], [])), (24, ([], [])), (28, ([(0, .inl [1]), (1, .inl [1000026]), (2, .inr false)], [])), (80, ([], []))], [], [])
/-- LotBeliefs$Tape.opens -/
def bM18 : frMt := (93, [], [(1, 1, 3, 9)], some (.inr false), [(0, ([(0, .inl [1])], []))], [(11, 5), (27, 6)], [])
/-- LotBeliefs$TongueReader.readRelation -/
def bM19 : frMt := (107, [], [(24, 24, 0, 100000), (1, 1, 3, 9), (23, 23, 2, 2)], none, [(0, ([(0, .inl [1]), (1, .inl [23])], [])), (55, ([(0, .inl [1]), (1, .inl [23]), (2, .inr false)], []))], [(2, 20), (12, 14), (28, 14), (44, 14), (52, 5), (56, 6), (61, 20), (66, 16)], [])
/-- LotBeliefs$TongueReader.readSum -/
def bM20 : frMt := (108, [], [(24, 24, 0, 100000), (1, 1, 3, 9), (23, 23, 2, 2)], none, [(0, ([(0, .inl [1]), (1, .inl [23])], [])), (7, ([(0, .inl [1]), (1, .inl [23]), (2, .inr false)], [])), (32, ([(0, .inl [1]), (1, .inl [23]), (2, .inr false)], [])), (50, ([(0, .inl [1]), (1, .inl [23]), (2, .inr false)], [.inr false])), (71, ([], []))], [(2, 22), (17, 14), (26, 14), (35, 14), (52, 6), (57, 22), (62, 16)], [])
/-- LotBeliefs$Tape.shuts -/
def bM21 : frMt := (94, [], [(1, 1, 7, 7)], none, [(0, ([(0, .inl [1])], []))], [], [])
/-- LotBeliefs$TongueReader.readProduct -/
def bM22 : frMt := (109, [], [(24, 24, 0, 100000), (1, 1, 3, 9), (23, 23, 2, 2)], none, [(0, ([(0, .inl [1]), (1, .inl [23])], [])), (7, ([(0, .inl [1]), (1, .inl [23]), (2, .inr false)], [])), (45, ([], []))], [(2, 23), (17, 14), (24, 6), (29, 23), (36, 16)], [])
/-- LotBeliefs$TongueReader.readValue -/
def bM23 : frMt := (110, [], [(24, 24, 0, 100000), (1, 1, 3, 9), (23, 23, 2, 2)], none, [(0, ([(0, .inl [1]), (1, .inl [23])], [])), (71, ([(0, .inl [1]), (1, .inl [23]), (2, .inr false)], [])), (84, ([], []))], [(3, 14), (10, 18), (18, 20), (24, 11), (28, 21), (35, 24), (47, 25), (50, 16), (57, 26), (68, 5), (72, 6), (81, 16)], [])
/-- LotBeliefs$Tape.isNumber -/
def bM24 : frMt := (87, [], [], some (.inr false), [(0, ([(0, .inl [1])], [])), (13, ([], [.inr false]))], [], [])
/-- LotBeliefs$Tape.takeNumber -/
def bM25 : frMt := (92, [], [(1, 1, 3, 6), (1, 1, 8, 9)], some (.inr false), [(0, ([(0, .inl [1]), (1, .inr false), (2, .inr false)], [])), (34, ([(0, .inl [1]), (3, .inr false)], [])), (51, ([(3, .inr false)], []))], [(12, 5), (36, 5), (48, 6)], [])
/-- LotBeliefs$TongueReader.quantityHere -/
def bM26 : frMt := (111, [], [], some (.inr false), [(0, ([(0, .inl [1])], [])), (117, ([], [.inr false]))], [(3, 27), (14, 28), (25, 29), (36, 30), (47, 31), (58, 32), (69, 33), (81, 34), (93, 35), (105, 36)], [])
/-- LotBeliefs$Tape.isWord -/
def bM27 : frMt := (85, [], [], some (.inr false), [(0, ([(0, .inl [1]), (1, .inl [1000016])], [])), (24, ([], [])), (28, ([(0, .inl [1]), (1, .inl [1000016]), (2, .inr false)], [])), (80, ([], []))], [], [])
/-- LotBeliefs$Tape.isWord -/
def bM28 : frMt := (85, [], [], some (.inr false), [(0, ([(0, .inl [1]), (1, .inl [1000017])], [])), (24, ([], [])), (28, ([(0, .inl [1]), (1, .inl [1000017]), (2, .inr false)], [])), (80, ([], []))], [], [])
/-- LotBeliefs$Tape.isWord -/
def bM29 : frMt := (85, [], [], some (.inr false), [(0, ([(0, .inl [1]), (1, .inl [1000018])], [])), (24, ([], [])), (28, ([(0, .inl [1]), (1, .inl [1000018]), (2, .inr false)], [])), (80, ([], []))], [], [])
/-- LotBeliefs$Tape.isWord -/
def bM30 : frMt := (85, [], [], some (.inr false), [(0, ([(0, .inl [1]), (1, .inl [1000019])], [])), (24, ([], [])), (28, ([(0, .inl [1]), (1, .inl [1000019]), (2, .inr false)], [])), (80, ([], []))], [], [])
/-- LotBeliefs$Tape.isWord -/
def bM31 : frMt := (85, [], [], some (.inr false), [(0, ([(0, .inl [1]), (1, .inl [1000020])], [])), (24, ([], [])), (28, ([(0, .inl [1]), (1, .inl [1000020]), (2, .inr false)], [])), (80, ([], []))], [], [])
/-- LotBeliefs$Tape.isWord -/
def bM32 : frMt := (85, [], [], some (.inr false), [(0, ([(0, .inl [1]), (1, .inl [1000021])], [])), (24, ([], [])), (28, ([(0, .inl [1]), (1, .inl [1000021]), (2, .inr false)], [])), (80, ([], []))], [], [])
/-- LotBeliefs$Tape.isWord -/
def bM33 : frMt := (85, [], [], some (.inr false), [(0, ([(0, .inl [1]), (1, .inl [1000022])], [])), (24, ([], [])), (28, ([(0, .inl [1]), (1, .inl [1000022]), (2, .inr false)], [])), (80, ([], []))], [], [])
/-- LotBeliefs$Tape.isWord -/
def bM34 : frMt := (85, [], [], some (.inr false), [(0, ([(0, .inl [1]), (1, .inl [1000023])], [])), (24, ([], [])), (28, ([(0, .inl [1]), (1, .inl [1000023]), (2, .inr false)], [])), (80, ([], []))], [], [])
/-- LotBeliefs$Tape.isWord -/
def bM35 : frMt := (85, [], [], some (.inr false), [(0, ([(0, .inl [1]), (1, .inl [1000024])], [])), (24, ([], [])), (28, ([(0, .inl [1]), (1, .inl [1000024]), (2, .inr false)], [])), (80, ([], []))], [], [])
/-- LotBeliefs$Tape.isWord -/
def bM36 : frMt := (85, [], [], some (.inr false), [(0, ([(0, .inl [1]), (1, .inl [1000025])], [])), (24, ([], [])), (28, ([(0, .inl [1]), (1, .inl [1000025]), (2, .inr false)], [])), (80, ([], []))], [], [])
def bMs : List frMt := [bM0, bM1, bM2, bM3, bM4, bM5, bM6, bM7, bM8, bM9, bM10, bM11, bM12, bM13, bM14, bM15, bM16, bM17, bM18, bM19, bM20, bM21, bM22, bM23, bM24, bM25, bM26, bM27, bM28, bM29, bM30, bM31, bM32, bM33, bM34, bM35, bM36]
theorem bIn0 : bM0 ∈ bMs := List.mem_of_getElem? (i := 0) rfl
theorem bIn1 : bM1 ∈ bMs := List.mem_of_getElem? (i := 1) rfl
theorem bIn2 : bM2 ∈ bMs := List.mem_of_getElem? (i := 2) rfl
theorem bIn3 : bM3 ∈ bMs := List.mem_of_getElem? (i := 3) rfl
theorem bIn4 : bM4 ∈ bMs := List.mem_of_getElem? (i := 4) rfl
theorem bIn5 : bM5 ∈ bMs := List.mem_of_getElem? (i := 5) rfl
theorem bIn6 : bM6 ∈ bMs := List.mem_of_getElem? (i := 6) rfl
theorem bIn7 : bM7 ∈ bMs := List.mem_of_getElem? (i := 7) rfl
theorem bIn8 : bM8 ∈ bMs := List.mem_of_getElem? (i := 8) rfl
theorem bIn9 : bM9 ∈ bMs := List.mem_of_getElem? (i := 9) rfl
theorem bIn10 : bM10 ∈ bMs := List.mem_of_getElem? (i := 10) rfl
theorem bIn11 : bM11 ∈ bMs := List.mem_of_getElem? (i := 11) rfl
theorem bIn12 : bM12 ∈ bMs := List.mem_of_getElem? (i := 12) rfl
theorem bIn13 : bM13 ∈ bMs := List.mem_of_getElem? (i := 13) rfl
theorem bIn14 : bM14 ∈ bMs := List.mem_of_getElem? (i := 14) rfl
theorem bIn15 : bM15 ∈ bMs := List.mem_of_getElem? (i := 15) rfl
theorem bIn16 : bM16 ∈ bMs := List.mem_of_getElem? (i := 16) rfl
theorem bIn17 : bM17 ∈ bMs := List.mem_of_getElem? (i := 17) rfl
theorem bIn18 : bM18 ∈ bMs := List.mem_of_getElem? (i := 18) rfl
theorem bIn19 : bM19 ∈ bMs := List.mem_of_getElem? (i := 19) rfl
theorem bIn20 : bM20 ∈ bMs := List.mem_of_getElem? (i := 20) rfl
theorem bIn21 : bM21 ∈ bMs := List.mem_of_getElem? (i := 21) rfl
theorem bIn22 : bM22 ∈ bMs := List.mem_of_getElem? (i := 22) rfl
theorem bIn23 : bM23 ∈ bMs := List.mem_of_getElem? (i := 23) rfl
theorem bIn24 : bM24 ∈ bMs := List.mem_of_getElem? (i := 24) rfl
theorem bIn25 : bM25 ∈ bMs := List.mem_of_getElem? (i := 25) rfl
theorem bIn26 : bM26 ∈ bMs := List.mem_of_getElem? (i := 26) rfl
theorem bIn27 : bM27 ∈ bMs := List.mem_of_getElem? (i := 27) rfl
theorem bIn28 : bM28 ∈ bMs := List.mem_of_getElem? (i := 28) rfl
theorem bIn29 : bM29 ∈ bMs := List.mem_of_getElem? (i := 29) rfl
theorem bIn30 : bM30 ∈ bMs := List.mem_of_getElem? (i := 30) rfl
theorem bIn31 : bM31 ∈ bMs := List.mem_of_getElem? (i := 31) rfl
theorem bIn32 : bM32 ∈ bMs := List.mem_of_getElem? (i := 32) rfl
theorem bIn33 : bM33 ∈ bMs := List.mem_of_getElem? (i := 33) rfl
theorem bIn34 : bM34 ∈ bMs := List.mem_of_getElem? (i := 34) rfl
theorem bIn35 : bM35 ∈ bMs := List.mem_of_getElem? (i := 35) rfl
theorem bIn36 : bM36 ∈ bMs := List.mem_of_getElem? (i := 36) rfl
theorem boAll : frAll bMs = true := by decide +kernel
end FRT
