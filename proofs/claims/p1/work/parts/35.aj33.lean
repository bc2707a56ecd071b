/-! AJ: the call 33 (drawn), its calls once and for all -/
section AJ33
def aHo (o : Option aEnd) : aH := match o with
  | some e => e.2.1
  | none => (0, [])
noncomputable def aE (a d : Nat) (args : aL) (h : aH) : aCl := (a, d, args, h, 4000)
abbrev aXo : aV := .inl (.ref 0)
abbrev aXm : aV := .inl (.ref 78)
abbrev aLw : aV := .inr (false, 0, 4)
noncomputable def aD1 (h : aH) : aCl := aE 185 2037 [(0, aXo), (1, aAnyI)] h
noncomputable def aD2 (h : aH) : aCl := aE 187 2037 [(0, aXo), (1, aLw), (2, .inl (.int 0))] h
noncomputable def aD3 (h : aH) : aCl := aE 328 2037 [(0, .inl (.int 0))] h
noncomputable def aM1 (h : aH) : aCl := aE 291 2038 [(0, aXm), (1, aAnyI)] h
noncomputable def aM2 (h : aH) : aCl := aE 269 2038 [(0, aXm), (1, aLw)] h
noncomputable def aM3 (h : aH) : aCl := aE 253 2038 [(0, aXm)] h
noncomputable def aM4 (h : aH) : aCl := aE 225 2038 [(0, .inl (.long 0))] h
noncomputable def aR0 (h : aH) : aH := aHo (aSum (aD1 h))
noncomputable def aR1 (h : aH) : aH := aHo (aSum (aD2 (aR0 h)))
noncomputable def aR2 (h : aH) : aH := aHo (aSum (aM2 (aR1 h)))
/-- the calls: on the first heap, then on the ones that they leave -/
noncomputable def aQs (h : aH) : List aCl := [aD1 (aR1 h), aD2 (aR1 h), aD3 (aR1 h), aD1 h, aD2 (aR0 h), aM1 (aR2 h), aM2 (aR2 h), aM3 (aR2 h), aM4 (aR2 h), aM1 (aR1 h), aM2 (aR1 h)]
def aHpOf (s : aSt) : aH := match s with
  | (_, _, _, _, _, _, hp, _, _) => hp
def aCuts33 : List (List Int) := [[-1, 4], [], [-1, 0, 1, 2, 3, 4, 5, 6, 7, 8, 9, 10, 11, 12, 13, 14, 15, 16, 17, 18, 19, 20, 21, 22, 23, 24, 25, 26, 27, 28, 29, 30, 31, 32, 33, 34, 35, 36, 37, 38, 39, 40, 41, 42, 43, 44, 45, 46, 47, 48, 49, 50, 51, 52, 53, 54, 55, 56, 57, 58, 59, 60], [], []]
noncomputable def aOpS (lo m : Nat) (s : aSt) : Bool := (((aGrid ([] :: aCuts33)).drop lo).take m).all (fun b => aGoS (aQs (aHpOf s)) (some b) 20000 (aTop 33 s))
end AJ33
