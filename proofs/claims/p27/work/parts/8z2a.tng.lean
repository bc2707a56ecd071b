/-! SX: tongue, by hand: what is copied is well formed -/
section SXTNG
/-- what the copying may write -/
def tgM : sxMo := [(78, 26), (78, 28)] ++ ((List.range 10).map (fun r => (96 + r, 0)) ++ ((List.range 220).map (fun k => (118 + k, 0)) ++ [(579, 3)]))
def tgMB : sxMo := [(78, 26), (78, 28)] ++ ((List.range 10).map (fun r => (96 + r, 0)) ++ [(579, 3)])
def tgMC (k : Nat) : sxMo := [(118 + k, 0), (579, 3)]
def tgJ (M : sxMo) (r : Nat) (cuts : List sxCu) (posts : List sxPt) : sxJb := ((sxKw, M, 1, none), [], 236, cuts, r, posts, [], (0, 0), [])
/-- from 107: whos is R -/
def tgB0 (R : Nat) : sxPt := (2, [(1, .ofNat 0, .ofNat 220)], [], [(0, .inl 78)], [], [(78, (0, .ofNat 26), isS1 0 (.ofNat R)), (78, (0, .ofNat 28), isS1 1 (.ofNat 0))], [], [])
def tgRow : Nat → Nat → sxO
  | _, 0 => []
  | k, m + 1 => (96 + k, (0, .ofNat 1), isS1 (2 * k + 2) (.ofNat 0)) :: (107 + k, (0, .ofNat 1), isS1 (2 * k + 2) (.ofNat 0)) :: (96 + k, (0, .ofNat 2), isS1 (2 * k + 3) (.ofNat 0)) :: (107 + k, (0, .ofNat 2), isS1 (2 * k + 3) (.ofNat 0)) :: tgRow (k + 1) m
def tgB1 (R : Nat) : sxPt := (2 * R + 2, [(1, .ofNat 0, .ofNat 220)], [], [(0, .inl 78), (2, isS1 0 (.ofNat 0))], [], (78, (0, .ofNat 25), isS1 0 (.ofNat R)) :: (78, (0, .ofNat 27), isS1 1 (.ofNat 0)) :: tgRow 0 R, [], [])
set_option maxRecDepth 1000000 in
theorem tgB_ok : (List.range 11).all (fun R => aFc R fun R => sxGo1 (tgJ tgMB 2 [(170, tgB1 R, isZ, 0, 0)] []) none 1500 (sxSt 236 107 (tgB0 R) 0 0)) = true := by decide +kernel
/-- one code -/
def tgC0 (k : Nat) : sxPt := (2, [(1, .ofNat (k + 1), .ofNat 220)], [], [(0, .inl 78), (2, isS1 0 (.ofNat k))], [], [(78, (0, .ofNat 27), isS1 1 (.ofNat 0))], [], [])
def tgC1 (k : Nat) : sxPt := (3, [(1, .ofNat (k + 1), .ofNat 220)], [], [(0, .inl 78), (2, isS1 0 (.ofNat (k + 1)))], [], [(118 + k, (0, .ofNat 0), isS1 2 (.ofNat 0)), (339 + k, (0, .ofNat 0), isS1 2 (.ofNat 0))], [], [])
set_option maxRecDepth 1000000 in
theorem tgC_ok : (List.range 220).all (fun k => aFc k fun k => sxGo1 (tgJ (tgMC k) 2 [(170, tgC1 k, isZ, 0, 0)] []) none 200 (sxSt 236 170 (tgC0 k) 0 0)) = true := by decide +kernel
/-- the end -/
def tgD0 : sxPt := (4, [(1, .ofNat 0, .ofNat 220), (2, .ofNat 0, .ofNat 220), (3, .ofNat 0, .ofNat 10)], [(1, 2, .ofNat 0)], [(0, .inl 78), (2, isS1 2 (.ofNat 0))], [], [(78, (0, .ofNat 27), isS1 1 (.ofNat 0)), (78, (0, .ofNat 25), isS1 3 (.ofNat 0))], [], [])
def tgD1 : sxPt := (4, [], [], [], [isS1 3 (.ofNat 0)], [], [], [])
set_option maxRecDepth 1000000 in
theorem tgD_ok : sxGo1 (tgJ [] 4 [] [tgD1]) none 100 (sxSt 236 170 tgD0 0 0) = true := by decide +kernel
/-- what tongue calls, the richer contract first -/
def csTng2 : List sxCt := [ct269, ct111, ct375]
theorem cvTngs2 {gh : sxGh} (hg : sxGd sxKw gh) : ∀ c ∈ csTng2, sxCtV sxKw gh c := (List.forall_mem_cons.mpr ⟨cv269 hg, (List.forall_mem_cons.mpr ⟨cv111 hg, (List.forall_mem_cons.mpr ⟨cv375 hg, (fun _ h => absurd h List.not_mem_nil)⟩)⟩)⟩)
noncomputable abbrev tgJA : sxJb := ((sxKw, ctTng.2.2.2.1, ctTng.2.1, none), csTng2, 236, cuTng ++ cxTng, 3, ctTng.2.2.2.2.1, [], (0, 0), [])
set_option maxRecDepth 1000000 in
theorem tgA_cu : cuTng.all (sxCuB tgJA 2000) = true := by decide +kernel
set_option maxRecDepth 1000000 in
theorem tgA_go : sxGo1 tgJA none 2000 (sxSt 236 0 ctTng.2.2.1 0 0) = true := by decide +kernel
set_option maxRecDepth 1000000 in
theorem tgS_ok : ((match sxMsb tgMB tgM with | true => (match sxMsb tgM ctTng.2.2.2.1 with | true => true | false => false) | false => false) && (List.range 220).all (fun k => sxMsb (tgMC k) tgM)) = true := by decide +kernel
end SXTNG
