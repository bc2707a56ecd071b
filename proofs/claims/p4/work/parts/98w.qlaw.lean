/-! a query that reads the text: its turn -/
section QLAW
def qx : List (Nat × Nat × Int) := [(78, 1, 0), (78, 0, 0)]
def qxl : List (Nat × Nat × Int) := [(1, 1, 0)]
set_option maxRecDepth 1000000 in
theorem qJlo3 : sxGo1 (tuJ 3 [] []) (some tuMe) 160 (sxSt mjLaw 389 (tuDlo 3) 0 0) = true := by decide +kernel
set_option maxRecDepth 1000000 in
theorem qJhi3 : sxGo1 (tuJ 3 [] []) (some tuMe) 168 (sxSt mjLaw 389 (tuDhi 3) 0 0) = true := by decide +kernel
set_option maxRecDepth 1000000 in
theorem qJbg3 : sxGo1 (tuJ 3 [] []) (some tuMe) 259 (sxSt mjLaw 389 (tuDbg 3) 0 0) = true := by decide +kernel
abbrev qp3 : pxCt := qpt19
def qt3 : qTie := [(2, 7), (3, 0), (1, 6)]
def qu3 : qTie := [(4, 7), (5, 0), (18, 6)]
def qM3 : sxMo := [(0, 2), (0, 7), (1, 2), (1, 3), (1, 4), (1, 5), (1, 6), (1, 7), (1, 8), (1, 9), (1, 10), (78, 1), (78, 2), (78, 3), (78, 4), (78, 5), (78, 6), (78, 7), (78, 8), (78, 9), (78, 21), (81, 0), (578, 0), (579, 5)]
noncomputable def qC_3 : List sxCt := [(qCtL2 false qt3 qp3 qxl), (qCtR2 false qt3 qp3 qx)]
set_option maxRecDepth 1000000 in
theorem qJ_3 : sxGo1 (tuJI qM3 38 qC_3) (some tuMe) 110 (sxSt mjLaw 389 (tuQw false (tuQ24 3) qu3) 0 0) = true := by decide +kernel
theorem qV_3 {T : Nat} {V : rdVt} (hOk : qOk false qt3 qp3 T V) : ∀ c ∈ qC_3, sxCtV sxKw (ghL T V) c := List.forall_mem_cons.mpr ⟨qLeftC2 (ex := qxl) (by decide +kernel) (qpv19 ghGd) (by decide +kernel) (by decide +kernel) (by decide +kernel) hOk, List.forall_mem_cons.mpr ⟨qRightC2 (ex := qx) (by decide +kernel) (qpv19 ghGd) (by decide +kernel) (by decide +kernel) hOk, fun _ h => absurd h List.not_mem_nil⟩⟩
def qth3 : List sxN := [(0, 0), (18, 0), (4, 0), (5, 0), (0, 0), (0, 0)]
def qls3 : sxL := [(0, .inl 78), (1, .inr (false, (18, .ofNat 0)))]
theorem tuC389 : tuGood 389 := tuGood3 (tuQryT (kd := false) (t := qt3) (u := qu3) (θ := qth3) (ls := qls3) (Or.inl rfl) qJlo3 qJhi3 qJbg3 (by decide) qJ_3 (fun T V h => qV_3 h) (fun T V => qpv19 ghGd) (by decide +kernel) (by decide +kernel) (by decide +kernel) (by decide +kernel) (by decide +kernel))
end QLAW
