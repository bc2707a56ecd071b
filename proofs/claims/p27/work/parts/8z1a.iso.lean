/-! SX: isSo, by hand: the codes that stand are well formed -/
section SXISO
def isS1 (s : Nat) (c : Int) : sxV := .inr (false, (s, c))
def ctIso (r : Nat) : sxCt := (239, 3, (4, [(1, .ofNat 0, .ofNat 220), (2, .ofNat 0, .ofNat 220), (3, .ofNat (r + 1), .ofNat 10)], [], [(0, .inl 78), (1, isS1 1 (.ofNat 0)), (2, isS1 2 (.ofNat 0))], [], [(96 + r, (0, .ofNat 1), isS1 1 (.ofNat 0)), (96 + r, (0, .ofNat 2), isS1 2 (.ofNat 0)), (78, (0, .ofNat 25), isS1 3 (.ofNat 0)), (579, (0, .ofNat 2), isS1 0 (.ofNat 1))], [], []), [(559, 0)],
  [(4, [(1, .ofNat 0, .ofNat 220), (2, .ofNat 0, .ofNat 220), (3, .ofNat (r + 1), .ofNat 10)], [], [], [isS1 0 (.ofNat 0)], [], [], []), (4, [(1, .ofNat 0, .ofNat 220), (2, .ofNat 0, .ofNat 220), (3, .ofNat (r + 1), .ofNat 10)], [], [], [isS1 0 (.ofNat 1)], [], [], [])], [], 0, 0)
def isZ : sxMe := ((0, 0, 0), (0, 0, 0), (0, 0, 0))
def isJ (r : Nat) (cuts : List sxCu) (posts : List sxPt) : sxJb := ((sxKw, [(559, 0)], 3, none), [ctVal], 239, cuts, r, posts, [], (0, 0), [])
def isD (k : Nat) (wl wh nl nh : Int) : sxD := [(1, nl, nh), (2, .ofNat (k + 1), .ofNat 220), (3, wl, wh)]
def isP (k : Nat) (wl wh nl nh : Int) : sxPt := (4, isD k wl wh nl nh, [], [(0, .inl 78), (2, isS1 2 (.ofNat 0)), (3, isS1 1 (.ofNat 0)), (4, isS1 0 (.ofNat k))], [], [(118 + k, (0, .ofNat 0), isS1 3 (.ofNat 0))], [], [])
def isE (k : Nat) (wl wh nl nh dl : Int) : sxPt := (4, isD k wl wh nl nh, [], [(0, .inl 78), (2, isS1 2 (.ofNat 0)), (3, isS1 1 dl), (4, isS1 0 (.ofNat (k + 1)))], [], [], [], [])
noncomputable def isCk (k : Nat) (wl wh nl nh dl : Int) : Bool := sxGo1 (isJ 4 [(5, isE k wl wh nl nh dl, isZ, 0, 0)] []) none 400 (sxSt 239 5 (isP k wl wh nl nh) 0 0)
noncomputable def isTk (k : Nat) : Bool := aFc k fun k => match isCk k (.ofNat 0) (.ofNat 1) (.ofNat 0) (.ofNat 219) (.ofNat 1) with
  | true => (match isCk k (.ofNat 2) (.ofNat 7) (.ofNat 2) (.ofNat 220) (.negSucc 0) with
    | true => (match isCk k (.ofNat 8) (.ofNat 8) (.ofNat 1) (.ofNat 220) (.ofNat 0) with
      | true => isCk k (.ofNat 9) (.ofNat 10) (.ofNat 2) (.ofNat 220) (.negSucc 0)
      | false => false)
    | false => false)
  | false => false
set_option maxRecDepth 1000000 in
theorem isTk0_ok : (List.range 22).all (fun i => isTk (0 + i)) = true := by decide +kernel
set_option maxRecDepth 1000000 in
theorem isTk1_ok : (List.range 22).all (fun i => isTk (22 + i)) = true := by decide +kernel
end SXISO
