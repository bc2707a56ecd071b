/-! FR: tables, by program -/
set_option maxRecDepth 1000000
section FRT
/-- LotBeliefs$Tape.step -/
def zM0 : frMt := (83, [], [(1, 1, 3, 6)], none, [(0, ([(0, .inl [1])], [])), (14, ([(0, .inl [1]), (1, .inr false)], [])), (39, ([(0, .inl [1]), (1, .inr false)], [])), (67, ([(0, .inl [1]), (1, .inr false)], [.inr false, .inl [1]])), (109, ([(0, .inl [1]), (1, .inr false)], [])), (145, ([(0, .inl [1]), (1, .inr false)], [])), (173, ([(0, .inl [1]), (1, .inr false)], [])), (235, ([(0, .inl [1]), (1, .inr false)], [])), (243, ([(0, .inl [1]), (1, .inr false)], []))], [], [])
/-- LotBeliefs$Tape.fail -/
def zM1 : frMt := (89, [], [(1, 1, 3, 3), (1, 1, 8, 9)], none, [(0, ([(0, .inl [1]), (1, .inr false)], [])), (26, ([], []))], [], [])
/-- LotBeliefsModel.wrong -/
def zM2 : frMt := (202, [], [(78, 78, 5, 6)], none, [(0, ([(0, .inl [78]), (1, .inr false), (2, .inr false)], [])), (17, ([], []))], [], [])
def zMs : List frMt := [zM0, zM1, zM2]
theorem zIn0 : zM0 ∈ zMs := List.mem_of_getElem? (i := 0) rfl
theorem zIn1 : zM1 ∈ zMs := List.mem_of_getElem? (i := 1) rfl
theorem zIn2 : zM2 ∈ zMs := List.mem_of_getElem? (i := 2) rfl
theorem zoAll : frAll zMs = true := by decide +kernel
end FRT
