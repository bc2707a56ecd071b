/-! a pair of queries: contracts of two by program -/
section QPC
/-- LotBeliefs.Jar.slipsSoIn beside LotBeliefsModel.truthsNow -/
def qpt0 : pxCt := ((26, 252), (1, 1), ((5, [(1, .ofNat 0, .ofNat 63), (2, .ofNat 0, .ofNat 12), (3, .ofNat 0, .ofNat 600), (4, .negSucc 2147483647, .ofNat 2147483647)], [], [(0, .inl 3), (1, .inr (false, (1, .ofNat 0)))], [], [(3, (0, .ofNat 2), .inr (false, (2, .ofNat 0))), (579, (0, .ofNat 20), .inr (false, (0, .ofNat 1)))], [], [(40, (0, .ofNat 0), (0, .ofNat 0), (3, .ofNat 0))]),
   (5, [], [], [(0, .inl 78)], [], [(82, (0, .ofNat 1), .inr (false, (2, .ofNat 0))), (82, (0, .ofNat 4), .inr (false, (1, .ofNat 0))), (579, (0, .ofNat 32), .inr (false, (0, .ofNat 1)))], [], [])), ([], []), ((0, 0), (0, 0)), [
  ((7, [(5, .ofNat 0, .ofNat 4095), (6, .ofNat 0, .ofNat 4095)], [(5, 6, .ofNat 0), (6, 5, .ofNat 0)], [], [.inr (false, (5, .ofNat 0))], [(3, (0, .ofNat 2), .inr (false, (2, .ofNat 0))), (579, (0, .ofNat 20), .inr (false, (0, .ofNat 1)))], [], []),
   (7, [], [], [], [.inr (false, (6, .ofNat 0))], [(82, (0, .ofNat 1), .inr (false, (2, .ofNat 0))), (82, (0, .ofNat 4), .inr (false, (1, .ofNat 0))), (579, (0, .ofNat 32), .inr (false, (0, .ofNat 1)))], [], []))])
def qpc0_0 : pxCu := ((4, 4), ((8, [(1, .ofNat 0, .ofNat 63), (2, .ofNat 0, .ofNat 12), (3, .ofNat 0, .ofNat 600), (4, .negSucc 2147483647, .ofNat 2147483647), (5, .ofNat 0, .ofNat 4095), (6, .ofNat 0, .ofNat 12), (7, .ofNat 0, .ofNat 4095)], [(5, 7, .ofNat 0), (7, 5, .ofNat 0)], [(0, .inl 3), (1, .inr (false, (1, .ofNat 0))), (2, .inr (false, (5, .ofNat 0))), (3, .inr (false, (6, .ofNat 0)))], [], [(3, (0, .ofNat 2), .inr (false, (2, .ofNat 0))), (579, (0, .ofNat 20), .inr (false, (0, .ofNat 1)))], [], [(40, (0, .ofNat 0), (0, .ofNat 0), (3, .ofNat 0))]),
   (8, [], [], [(0, .inl 78), (1, .inr (false, (7, .ofNat 0))), (2, .inr (false, (6, .ofNat 0)))], [], [(82, (0, .ofNat 1), .inr (false, (2, .ofNat 0))), (82, (0, .ofNat 4), .inr (false, (1, .ofNat 0))), (579, (0, .ofNat 32), .inr (false, (0, .ofNat 1)))], [], [])), ((0, 6, .ofNat 12), (0, 0, .ofNat 0), (0, 0, .ofNat 0)), ((0, 0), (0, 0)))
def qpu0 : List pxCu := [qpc0_0]
def qpj0 : pxJb := pxJob sxKw [] [] (List.map (fun c => (c, none)) []) qpt0 qpu0 [(2600006, 579, 300), (2600010, 579, 301)] [(25200006, 579, 300), (25200015, 579, 301), (31, 579, 301)] ([26], [252])
set_option maxRecDepth 1000000 in
theorem qpe0_0 : pxEnF qpj0 qpt0.2.2.1 (pxP1 qpj0 none 11 0 1 0) = true := by decide +kernel
set_option maxRecDepth 1000000 in
theorem qpz0_0_0 : pxCuF qpj0 qpc0_0 (pxP1 qpj0 (some qpc0_0.2.2.1) 69 0 1 0) = true := by decide +kernel
def qxFm : List (pxCt × sxMe) := []
theorem qpv0 {gh : sxGh} (hg : sxGd sxKw gh) : pxCtV sxKw gh qpt0 :=
  pxMeV (cts := []) (cts' := []) (c := qpt0) (cuts := qpu0) (sp := [(2600006, 579, 300), (2600010, 579, 301)]) (sp' := [(25200006, 579, 300), (25200015, 579, 301), (31, 579, 301)]) (ks := ([26], [252])) (pcts := []) (List.forall_mem_cons.mpr ⟨⟨by decide +kernel, ⟨0, 1, by decide, fun i hi => match i, hi with | 0, _ => .inl ⟨69, qpz0_0_0⟩ | n + 1, h => absurd h (by omega)⟩⟩, fun _ h => absurd h List.not_mem_nil⟩) (⟨0, 1, by decide, fun i hi => match i, hi with | 0, _ => .inl ⟨11, qpe0_0⟩ | n + 1, h => absurd h (by omega)⟩) hg (by decide) (by decide) (fun _ h => absurd h List.not_mem_nil) (fun _ h => absurd h List.not_mem_nil) (fun _ h => absurd h List.not_mem_nil)
theorem qxFmV {gh : sxGh} (hg : sxGd sxKw gh) : ∀ q ∈ qxFm, pxCtW sxKw gh q.1 (fun d d' τ => (q.1.2.1.1 : Int) + ((0 : Nat) : Int) * sxMv τ q.2.1 ≤ (d : Int) ∧ (q.1.2.1.2 : Int) + ((0 : Nat) : Int) * sxMv τ q.2.1 ≤ (d' : Int)) := pxFam_ok (K := sxKw) (gh := gh) (fam := qxFm) (l := 0) (l' := 0) (fun _ h => absurd h List.not_mem_nil) (fun _ h => absurd h List.not_mem_nil)
end QPC
