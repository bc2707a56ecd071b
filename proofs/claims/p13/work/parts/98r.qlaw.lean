/-! a query's turn -/
section QLAW
abbrev qp3 : pxCt := qpt0
def qt3 : qTie := [(2, 1), (1, 4)]
def qu3 : qTie := [(6, 1), (9, 4)]
noncomputable def qC_3 : List sxCt := [(qCtL false qt3 qp3), (qCtR false qt3 qp3)]
set_option maxRecDepth 1000000 in
theorem qJ_3 : sxGo1 (tuJ 3 [] qC_3) (some tuMe) 84 (sxSt mjLaw 662 (tuQc false 3 qu3) 0 0) = true := by decide +kernel
theorem qV_3 {T : Nat} {V : rdVt} (hOk : qOk false qt3 qp3 T V) : ∀ c ∈ qC_3, sxCtV sxKw (ghL T V) c := List.forall_mem_cons.mpr ⟨qLeftC (qpv0 ghGd) (by decide +kernel) (by decide +kernel) (by decide +kernel) hOk, List.forall_mem_cons.mpr ⟨qRightC (qpv0 ghGd) (by decide +kernel) (by decide +kernel) hOk, fun _ h => absurd h List.not_mem_nil⟩⟩
def qth3 : List sxN := [(0, 0), (9, 0), (6, 0), (0, 0), (0, 0)]
theorem tuC662 : tuGood 662 := tuGood3 (tuQry (u := qu3) (θ := qth3) (Or.inl rfl) qJ_3 (fun T V h => qV_3 h) (fun T V => qpv0 ghGd) (by decide +kernel) (by decide +kernel) (by decide +kernel) (by decide +kernel))
end QLAW
