/-! FR: tables, by program -/
set_option maxRecDepth 1000000
section FRT
/-- LotBeliefs$TongueReader.read -/
def aM0 : frMt := (102, [], [(20, 20, 0, 100000), (1, 1, 3, 9), (19, 19, 0, 0), (19, 19, 2, 2)], none, [(0, ([(0, .inl [1]), (1, .inl [19])], [])), (6, ([(0, .inl [1]), (1, .inl [19]), (2, .inr false)], [])), (89, ([(0, .inl [1]), (1, .inl [19]), (2, .inr false)], [])), (95, ([], []))], [(1, 1), (14, 2), (21, 3), (32, 5), (49, 5), (56, 6), (61, 8), (67, 11), (76, 16)], [])
/-- LotBeliefs$Tongue.clear -/
def aM1 : frMt := (96, [], [(19, 19, 0, 0), (19, 19, 2, 2)], none, [(0, ([(0, .inl [19])], []))], [], [])
/-- LotBeliefs$Tape.goesOn -/
def aM2 : frMt := (84, [], [], some (.inr false), [(0, ([(0, .inl [1])], [])), (19, ([], [])), (20, ([], [.inr false]))], [], [])
/-- LotBeliefs$TongueReader.whoHere -/
def aM3 : frMt := (103, [], [], some (.inr false), [(0, ([(0, .inl [1])], [])), (36, ([], [.inr false]))], [(3, 4), (14, 7), (25, 9)], [])
/-- LotBeliefs$Tape.isWord -/
def aM4 : frMt := (85, [], [], some (.inr false), [(0, ([(0, .inl [1]), (1, .inl [1000012])], [])), (24, ([], [])), (28, ([(0, .inl [1]), (1, .inl [1000012]), (2, .inr false)], [])), (80, ([], []))], [], [])
/-- LotBeliefs$Tape.fail -/
def aM5 : frMt := (89, [], [(1, 1, 3, 3), (1, 1, 8, 9)], none, [(0, ([(0, .inl [1]), (1, .inr false)], [])), (26, ([], []))], [], [])
/-- LotBeliefs$Tape.step -/
def aM6 : frMt := (83, [], [(1, 1, 3, 6)], none, [(0, ([(0, .inl [1])], [])), (14, ([(0, .inl [1]), (1, .inr false)], [])), (39, ([(0, .inl [1]), (1, .inr false)], [])), (67, ([(0, .inl [1]), (1, .inr false)], [.inr false, .inl [1]])), (109, ([(0, .inl [1]), (1, .inr false)], [])), (145, ([(0, .inl [1]), (1, .inr false)], [])), (173, ([(0, .inl [1]), (1, .inr false)], [])), (235, ([(0, .inl [1]), (1, .inr false)], [])), (243, ([(0, .inl [1]), (1, .inr false)], []))], [], [])
/-- LotBeliefs$Tape.isWord -/
def aM7 : frMt := (85, [], [], some (.inr false), [(0, ([(0, .inl [1]), (1, .inl [1000013])], [])), (24, ([], [])), (28, ([(0, .inl [1]), (1, .inl [1000013]), (2, .inr false)], [])), (80, ([], []))], [], [])
/-- LotBeliefs$TongueReader.readEither -/
def aM8 : frMt := (104, [], [(20, 20, 0, 100000), (1, 1, 3, 9), (19, 19, 2, 2)], none, [(0, ([(0, .inl [1]), (1, .inl [19])], [])), (7, ([(0, .inl [1]), (1, .inl [19]), (2, .inr false)], [])), (45, ([], []))], [(2, 10), (17, 13), (24, 6), (29, 10), (36, 16)], [])
/-- LotBeliefs$Tape.isWord -/
def aM9 : frMt := (85, [], [], some (.inr false), [(0, ([(0, .inl [1]), (1, .inl [1000014])], [])), (24, ([], [])), (28, ([(0, .inl [1]), (1, .inl [1000014]), (2, .inr false)], [])), (80, ([], []))], [], [])
/-- LotBeliefs$TongueReader.readEach -/
def aM10 : frMt := (105, [], [(20, 20, 0, 100000), (1, 1, 3, 9), (19, 19, 2, 2)], none, [(0, ([(0, .inl [1]), (1, .inl [19])], [])), (7, ([(0, .inl [1]), (1, .inl [19]), (2, .inr false)], [])), (45, ([], []))], [(2, 12), (17, 17), (24, 6), (29, 12), (36, 16)], [])
/-- LotBeliefs$Tape.takeSign -/
def aM11 : frMt := (90, [], [(1, 1, 3, 6), (1, 1, 8, 9)], none, [(0, ([(0, .inl [1]), (1, .inr false)], [])), (20, ([], []))], [(2, 14), (9, 6), (17, 5)], [])
/-- LotBeliefs$TongueReader.readPart -/
def aM12 : frMt := (106, [], [(20, 20, 0, 100000), (1, 1, 3, 9), (19, 19, 2, 2)], none, [(0, ([(0, .inl [1]), (1, .inl [19])], [])), (74, ([], []))], [(3, 15), (10, 18), (18, 12), (22, 21), (29, 16), (38, 14), (45, 18), (53, 8), (59, 11), (63, 21), (71, 19)], [])
/-- LotBeliefs$Tape.isWord -/
def aM13 : frMt := (85, [], [], some (.inr false), [(0, ([(0, .inl [1]), (1, .inl [1000027])], [])), (24, ([], [])), (28, ([(0, .inl [1]), (1, .inl [1000027]), (2, .inr false)], [])), (80, ([], []))], [], [])
/-- LotBeliefs$Tape.isSign -/
def aM14 : frMt := (86, [], [], some (.inr false), [(0, ([(0, .inl [1]), (1, .inr false)], [])), (20, ([], [])), (21, ([], [.inr false]))], [], [])
/-- LotBeliefs$Tape.isWord -/
def aM15 : frMt := (85, [], [], some (.inr false), [(0, ([(0, .inl [1]), (1, .inl [1000015])], [])), (24, ([], [])), (28, ([(0, .inl [1]), (1, .inl [1000015]), (2, .inr false)], [])), (80, ([], []))], [], [])
/-- LotBeliefs$Tongue.add -/
def aM16 : frMt := (97, [], [(20, 20, 0, 100000), (19, 19, 2, 2)], none, [(0, ([(0, .inl [19]), (1, .inr false)], [])), (32, ([], []))], [], [])
/-- LotBeliefs$Tape.isWord -/
def aM17 : frMt := (85, [], [], some (.inr false), [(0, ([(0, .inl [1]), (1, .inl [1000026])], [])), (24, ([], [])), (28, ([(0, .inl [1]), (1, .inl [1000026]), (2, .inr false)], [])), (80, ([], []))], [], [])
/-- LotBeliefs$Tape.opens -/
def aM18 : frMt := (93, [], [(1, 1, 3, 9)], some (.inr false), [(0, ([(0, .inl [1])], []))], [(11, 5), (27, 6)], [])
/-- LotBeliefs$TongueReader.readRelation -/
def aM19 : frMt := (107, [], [(20, 20, 0, 100000), (1, 1, 3, 9), (19, 19, 2, 2)], none, [(0, ([(0, .inl [1]), (1, .inl [19])], [])), (55, ([(0, .inl [1]), (1, .inl [19]), (2, .inr false)], []))], [(2, 20), (12, 14), (28, 14), (44, 14), (52, 5), (56, 6), (61, 20), (66, 16)], [])
/-- LotBeliefs$TongueReader.readSum -/
def aM20 : frMt := (108, [], [(20, 20, 0, 100000), (1, 1, 3, 9), (19, 19, 2, 2)], none, [(0, ([(0, .inl [1]), (1, .inl [19])], [])), (7, ([(0, .inl [1]), (1, .inl [19]), (2, .inr false)], [])), (32, ([(0, .inl [1]), (1, .inl [19]), (2, .inr false)], [])), (50, ([(0, .inl [1]), (1, .inl [19]), (2, .inr false)], [.inr false])), (71, ([], []))], [(2, 22), (17, 14), (26, 14), (35, 14), (52, 6), (57, 22), (62, 16)], [])
/-- LotBeliefs$Tape.shuts -/
def aM21 : frMt := (94, [], [(1, 1, 7, 7)], none, [(0, ([(0, .inl [1])], []))], [], [])
/-- LotBeliefs$TongueReader.readProduct -/
def aM22 : frMt := (109, [], [(20, 20, 0, 100000), (1, 1, 3, 9), (19, 19, 2, 2)], none, [(0, ([(0, .inl [1]), (1, .inl [19])], [])), (7, ([(0, .inl [1]), (1, .inl [19]), (2, .inr false)], [])), (45, ([], []))], [(2, 23), (17, 14), (24, 6), (29, 23), (36, 16)], [])
/-- LotBeliefs$TongueReader.readValue -/
def aM23 : frMt := (110, [], [(20, 20, 0, 100000), (1, 1, 3, 9), (19, 19, 2, 2)], none, [(0, ([(0, .inl [1]), (1, .inl [19])], [])), (71, ([(0, .inl [1]), (1, .inl [19]), (2, .inr false)], [])), (84, ([], []))], [(3, 14), (10, 18), (18, 20), (24, 11), (28, 21), (35, 24), (47, 25), (50, 16), (57, 26), (68, 5), (72, 6), (81, 16)], [])
/-- LotBeliefs$Tape.isNumber -/
def aM24 : frMt := (87, [], [], some (.inr false), [(0, ([(0, .inl [1])], [])), (13, ([], [.inr false]))], [], [])
/-- LotBeliefs$Tape.takeNumber -/
def aM25 : frMt := (92, [], [(1, 1, 3, 6), (1, 1, 8, 9)], some (.inr false), [(0, ([(0, .inl [1]), (1, .inr false), (2, .inr false)], [])), (34, ([(0, .inl [1]), (3, .inr false)], [])), (51, ([(3, .inr false)], []))], [(12, 5), (36, 5), (48, 6)], [])
/-- LotBeliefs$TongueReader.quantityHere -/
def aM26 : frMt := (111, [], [], some (.inr false), [(0, ([(0, .inl [1])], [])), (117, ([], [.inr false]))], [(3, 27), (14, 28), (25, 29), (36, 30), (47, 31), (58, 32), (69, 33), (81, 34), (93, 35), (105, 36)], [])
/-- LotBeliefs$Tape.isWord -/
def aM27 : frMt := (85, [], [], some (.inr false), [(0, ([(0, .inl [1]), (1, .inl [1000016])], [])), (24, ([], [])), (28, ([(0, .inl [1]), (1, .inl [1000016]), (2, .inr false)], [])), (80, ([], []))], [], [])
/-- LotBeliefs$Tape.isWord -/
def aM28 : frMt := (85, [], [], some (.inr false), [(0, ([(0, .inl [1]), (1, .inl [1000017])], [])), (24, ([], [])), (28, ([(0, .inl [1]), (1, .inl [1000017]), (2, .inr false)], [])), (80, ([], []))], [], [])
/-- LotBeliefs$Tape.isWord -/
def aM29 : frMt := (85, [], [], some (.inr false), [(0, ([(0, .inl [1]), (1, .inl [1000018])], [])), (24, ([], [])), (28, ([(0, .inl [1]), (1, .inl [1000018]), (2, .inr false)], [])), (80, ([], []))], [], [])
/-- LotBeliefs$Tape.isWord -/
def aM30 : frMt := (85, [], [], some (.inr false), [(0, ([(0, .inl [1]), (1, .inl [1000019])], [])), (24, ([], [])), (28, ([(0, .inl [1]), (1, .inl [1000019]), (2, .inr false)], [])), (80, ([], []))], [], [])
/-- LotBeliefs$Tape.isWord -/
def aM31 : frMt := (85, [], [], some (.inr false), [(0, ([(0, .inl [1]), (1, .inl [1000020])], [])), (24, ([], [])), (28, ([(0, .inl [1]), (1, .inl [1000020]), (2, .inr false)], [])), (80, ([], []))], [], [])
/-- LotBeliefs$Tape.isWord -/
def aM32 : frMt := (85, [], [], some (.inr false), [(0, ([(0, .inl [1]), (1, .inl [1000021])], [])), (24, ([], [])), (28, ([(0, .inl [1]), (1, .inl [1000021]), (2, .inr false)], [])), (80, ([], []))], [], [])
/-- LotBeliefs$Tape.isWord -/
def aM33 : frMt := (85, [], [], some (.inr false), [(0, ([(0, .inl [1]), (1, .inl [1000022])], [])), (24, ([], [])), (28, ([(0, .inl [1]), (1, .inl [1000022]), (2, .inr false)], [])), (80, ([], []))], [], [])
/-- LotBeliefs$Tape.isWord -/
def aM34 : frMt := (85, [], [], some (.inr false), [(0, ([(0, .inl [1]), (1, .inl [1000023])], [])), (24, ([], [])), (28, ([(0, .inl [1]), (1, .inl [1000023]), (2, .inr false)], [])), (80, ([], []))], [], [])
/-- LotBeliefs$Tape.isWord -/
def aM35 : frMt := (85, [], [], some (.inr false), [(0, ([(0, .inl [1]), (1, .inl [1000024])], [])), (24, ([], [])), (28, ([(0, .inl [1]), (1, .inl [1000024]), (2, .inr false)], [])), (80, ([], []))], [], [])
/-- LotBeliefs$Tape.isWord -/
def aM36 : frMt := (85, [], [], some (.inr false), [(0, ([(0, .inl [1]), (1, .inl [1000025])], [])), (24, ([], [])), (28, ([(0, .inl [1]), (1, .inl [1000025]), (2, .inr false)], [])), (80, ([], []))], [], [])
def aMs : List frMt := [aM0, aM1, aM2, aM3, aM4, aM5, aM6, aM7, aM8, aM9, aM10, aM11, aM12, aM13, aM14, aM15, aM16, aM17, aM18, aM19, aM20, aM21, aM22, aM23, aM24, aM25, aM26, aM27, aM28, aM29, aM30, aM31, aM32, aM33, aM34, aM35, aM36]
theorem aIn0 : aM0 ∈ aMs := List.mem_of_getElem? (i := 0) rfl
theorem aIn1 : aM1 ∈ aMs := List.mem_of_getElem? (i := 1) rfl
theorem aIn2 : aM2 ∈ aMs := List.mem_of_getElem? (i := 2) rfl
theorem aIn3 : aM3 ∈ aMs := List.mem_of_getElem? (i := 3) rfl
theorem aIn4 : aM4 ∈ aMs := List.mem_of_getElem? (i := 4) rfl
theorem aIn5 : aM5 ∈ aMs := List.mem_of_getElem? (i := 5) rfl
theorem aIn6 : aM6 ∈ aMs := List.mem_of_getElem? (i := 6) rfl
theorem aIn7 : aM7 ∈ aMs := List.mem_of_getElem? (i := 7) rfl
theorem aIn8 : aM8 ∈ aMs := List.mem_of_getElem? (i := 8) rfl
theorem aIn9 : aM9 ∈ aMs := List.mem_of_getElem? (i := 9) rfl
theorem aIn10 : aM10 ∈ aMs := List.mem_of_getElem? (i := 10) rfl
theorem aIn11 : aM11 ∈ aMs := List.mem_of_getElem? (i := 11) rfl
theorem aIn12 : aM12 ∈ aMs := List.mem_of_getElem? (i := 12) rfl
theorem aIn13 : aM13 ∈ aMs := List.mem_of_getElem? (i := 13) rfl
theorem aIn14 : aM14 ∈ aMs := List.mem_of_getElem? (i := 14) rfl
theorem aIn15 : aM15 ∈ aMs := List.mem_of_getElem? (i := 15) rfl
theorem aIn16 : aM16 ∈ aMs := List.mem_of_getElem? (i := 16) rfl
theorem aIn17 : aM17 ∈ aMs := List.mem_of_getElem? (i := 17) rfl
theorem aIn18 : aM18 ∈ aMs := List.mem_of_getElem? (i := 18) rfl
theorem aIn19 : aM19 ∈ aMs := List.mem_of_getElem? (i := 19) rfl
theorem aIn20 : aM20 ∈ aMs := List.mem_of_getElem? (i := 20) rfl
theorem aIn21 : aM21 ∈ aMs := List.mem_of_getElem? (i := 21) rfl
theorem aIn22 : aM22 ∈ aMs := List.mem_of_getElem? (i := 22) rfl
theorem aIn23 : aM23 ∈ aMs := List.mem_of_getElem? (i := 23) rfl
theorem aIn24 : aM24 ∈ aMs := List.mem_of_getElem? (i := 24) rfl
theorem aIn25 : aM25 ∈ aMs := List.mem_of_getElem? (i := 25) rfl
theorem aIn26 : aM26 ∈ aMs := List.mem_of_getElem? (i := 26) rfl
theorem aIn27 : aM27 ∈ aMs := List.mem_of_getElem? (i := 27) rfl
theorem aIn28 : aM28 ∈ aMs := List.mem_of_getElem? (i := 28) rfl
theorem aIn29 : aM29 ∈ aMs := List.mem_of_getElem? (i := 29) rfl
theorem aIn30 : aM30 ∈ aMs := List.mem_of_getElem? (i := 30) rfl
theorem aIn31 : aM31 ∈ aMs := List.mem_of_getElem? (i := 31) rfl
theorem aIn32 : aM32 ∈ aMs := List.mem_of_getElem? (i := 32) rfl
theorem aIn33 : aM33 ∈ aMs := List.mem_of_getElem? (i := 33) rfl
theorem aIn34 : aM34 ∈ aMs := List.mem_of_getElem? (i := 34) rfl
theorem aIn35 : aM35 ∈ aMs := List.mem_of_getElem? (i := 35) rfl
theorem aIn36 : aM36 ∈ aMs := List.mem_of_getElem? (i := 36) rfl
theorem aoAll : frAll aMs = true := by decide +kernel
end FRT
