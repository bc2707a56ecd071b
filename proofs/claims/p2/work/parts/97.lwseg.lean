/-! SX: the law's turn: a case of its switch, from its first place back to the head -/
section LWSEG
def lwMe : sxMe := ((1, 2, 0), (0, 0, 0), (0, 0, 0))
def lwR (n : Nat) : sxPt := (n, [], [], [], [.inr (false, (0, .ofNat 1))], [], [])
def lwJ (cs : List sxCt) : sxJb := ((sxKw, lwM, lwNeed, some (1, 0)), cs, mjLaw, [(26, lwP, lwMe, 1, 6)], 2, [lwR 2], [], (1, 6), [])
def lwGood (pc : Nat) : Prop := ∀ (scr : Option (List Int32)) (Z : mjO → Prop) (d : Nat) (τ : List Int) (cl : mjL) (H : mjH), lwNeed ≤ d → sxHR sxKw H → sxPtR 579 (sxVw ghL scr 579 H) τ lwPc cl [] → sxSl τ (some (1, 0)) scr →
  (∀ (τ' : List Int) (cl' : mjL) (cs' : List Value) (H' : mjH) (C S : Nat), τ'[1]? = τ[1]? → sxPtR 579 (sxVw ghL scr 579 H') τ' lwP cl' cs' → sxHR sxKw H' → C ≤ 1 → S ≤ 6 → sxMv τ' (1, 2, 0) < sxMv τ (1, 2, 0) → mjRn Z scr [] d mjLaw 26 cl' cs' H' C S) →
  (∀ (x : Int32) (H' : mjH) (C S : Nat), x.toInt = 1 → C ≤ 1 → S ≤ 6 → Z (.inl (some (.int x)), H', C, S)) → mjRn Z scr [] d mjLaw pc cl [] H 0 0
theorem lwMv0 {τ : List Int} : sxMv τ (0, 0, 0) = 0 := by
  unfold sxMv
  dsimp only
  omega
theorem lwRes {τ : List Int} {n : Nat} {vw : Nat → Nat → Option Value} {cv : Option Value} (h : sxPtR 579 vw τ (lwR n) [] cv.toList) : ∃ x : Int32, cv = some (.int x) ∧ x.toInt = 1 := by
  obtain ⟨p1, p2, p3, p4, p5, p6, p7⟩ := h
  cases cv with
  | none => exact p5.elim
  | some w =>
    obtain ⟨x, rfl, y, h1, h2⟩ := p5.1
    cases Option.some.inj (p1.2.symm.trans h1)
    exact ⟨x, rfl, by rw [h2]; rfl⟩
theorem lwSeg {cs : List sxCt} {pc : Nat} (n : Nat) (h : sxGo1 (lwJ cs) (some lwMe) n (sxSt mjLaw pc lwPc 0 0) = true) (hV : ∀ c ∈ cs, sxCtV sxKw ghL c) : lwGood pc := by
  intro scr Z d τ cl H hd hH hp hsl hgo hend
  have hl : τ.length = 4 := hp.1.1
  have hu : sxUp (τ.take 2) τ := by
    intro s z hs
    rw [List.getElem?_take] at hs
    split at hs
    · exact hs
    · cases hs
  have up1 : ∀ τ', sxUp (τ.take 2) τ' → τ'[1]? = τ[1]? := by
    intro τ' h1
    have e : τ[1]? = some τ[1] := List.getElem?_eq_getElem (by omega)
    rw [e]
    exact h1 1 _ (by rw [List.getElem?_take, if_pos (by decide), e])
  refine sxSegX (J := lwJ cs) (p := lwPc) (C0 := 0) (S0 := 0) (v0 := sxVw ghL scr 579 H) (τ0 := τ.take 2) (τ := τ) (me := some lwMe) n h ghGd isLt (show 0 < 2 by decide) hV hd hu (by rw [List.length_take, hl]; rfl) (fun b hb => ?_) hsl hp hH sxKp.rf (Nat.le_refl _) (Nat.le_refl _) ?_ ?_ (fun q hq => (by cases hq))
  · cases hb
    rw [hl]
    unfold sxMin lwMe
    decide
  · intro u hu' τ' cl' cs' H' C S g1 g2 g3 g4 g5 g6 g7
    cases List.mem_singleton.mp hu'
    refine hgo τ' cl' cs' H' C S (up1 τ' g1) g2 g3 g5 g6 ?_
    have := g7 _ rfl
    unfold sxLt3 sxMvs lwMe at this
    dsimp only at this
    rw [lwMv0, lwMv0] at this
    omega
  · intro p hp' cv τ' H' C S g1 g2 g3 g4 g5 g6
    cases List.mem_singleton.mp hp'
    obtain ⟨x, rfl, hx⟩ := lwRes g2
    exact hend x H' C S hx g5 g6
end LWSEG
