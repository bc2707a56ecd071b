/-! SX: the law's turn with the text: a case of its switch, from its first place back to the head -/
section TUSEG
def tuMe : sxMe := ((1, 3, 0), (0, 0, 0), (0, 0, 0))
def tuR (n : Nat) : sxPt := (n, [], [], [], [.inr (false, (0, .ofNat 1))], [], [], [])
def tuJ (J : Nat) (sp : List (Nat × Nat × Nat)) (cs : List sxCt) : sxJb := ((sxKw, tuM, tuNeed, some (1, 0)), cs, mjLaw, [(26, tuP J, tuMe, 1, 6)], 3, [tuR 3], [], (1, 6), sp)
/-- all goes well at the head, whatever the text has become -/
def tuGoOn (scr : Option (List Int32)) (Z : mjO → Prop) (d : Nat) (τ : List Int) : Prop := ∀ (J T : Nat) (τ' : List Int) (cl' : mjL) (cs' : List Value) (H' : mjH) (C S : Nat), (J = 3 ∨ J = 11) → τ'[1]? = τ[1]? → τ'[2]? = some (tLn T : Int) → sxPtR T 579 (sxVw (ghL T v00) scr 579 H') τ' (tuP J) cl' cs' → sxHR sxKw H' → C ≤ 1 → S ≤ 6 → sxMv τ' (1, 3, 0) < sxMv τ (1, 3, 0) → mjRn Z scr [] d mjLaw 26 cl' cs' H' C S
def tuEnd (Z : mjO → Prop) : Prop := ∀ (x : Int32) (H' : mjH) (C S : Nat), x.toInt = 1 → C ≤ 1 → S ≤ 6 → Z (.inl (some (.int x)), H', C, S)
def tuGoodJ (J pc : Nat) : Prop := ∀ (T : Nat) (scr : Option (List Int32)) (Z : mjO → Prop) (d : Nat) (τ : List Int) (cl : mjL) (H : mjH), tuNeed ≤ d → sxHR sxKw H → sxPtR T 579 (sxVw (ghL T v00) scr 579 H) τ (tuPc J) cl [] → τ[2]? = some (tLn T : Int) → sxSl τ (some (1, 0)) scr → tuGoOn scr Z d τ → tuEnd Z → mjRn Z scr [] d mjLaw pc cl [] H 0 0
def tuGood (pc : Nat) : Prop := tuGoodJ 3 pc ∧ tuGoodJ 11 pc
theorem tuMv0 {τ : List Int} : sxMv τ (0, 0, 0) = 0 := by
  unfold sxMv
  dsimp only
  omega
theorem tuRes {T : Nat} {τ : List Int} {n : Nat} {vw : Nat → Nat → Option Value} {cv : Option Value} (h : sxPtR T 579 vw τ (tuR n) [] cv.toList) : ∃ x : Int32, cv = some (.int x) ∧ x.toInt = 1 := by
  obtain ⟨p1, p2, p3, p4, p5, p6, p7⟩ := h
  cases cv with
  | none => exact p5.elim
  | some w =>
    obtain ⟨x, rfl, y, h1, h2⟩ := p5.1
    cases Option.some.inj (p1.2.symm.trans h1)
    exact ⟨x, rfl, by rw [h2]; rfl⟩
theorem tuSeg {J : Nat} {sp : List (Nat × Nat × Nat)} {cs : List sxCt} {pc : Nat} (hJ : J = 3 ∨ J = 11) (n : Nat) (h : sxGo1 (tuJ J sp cs) (some tuMe) n (sxSt mjLaw pc (tuPc J) 0 0) = true) (hV : ∀ {T : Nat}, ∀ c ∈ cs, sxCtV sxKw (ghL T v00) c) : tuGoodJ J pc := by
  intro T scr Z d τ cl H hd hH hp hb hsl hgo hend
  have hl : τ.length = 18 := hp.1.1
  have hu : sxUp (τ.take 3) τ := by
    intro s z hs
    rw [List.getElem?_take] at hs
    split at hs
    · exact hs
    · cases hs
  have upi : ∀ τ', sxUp (τ.take 3) τ' → ∀ i, i < 3 → τ'[i]? = τ[i]? := by
    intro τ' h1 i hi
    have e : τ[i]? = some τ[i] := List.getElem?_eq_getElem (by omega)
    rw [e]
    exact h1 i _ (by rw [List.getElem?_take, if_pos hi, e])
  refine sxSegX (J := tuJ J sp cs) (p := tuPc J) (C0 := 0) (S0 := 0) (v0 := sxVw (ghL T v00) scr 579 H) (τ0 := τ.take 3) (τ := τ) (me := some tuMe) n h ghGd (show sxKw.2.1 < mjScr by decide) (show 0 < 3 by decide) hV hd hu (by rw [List.length_take, hl]; rfl) (fun b hb => ?_) hsl hp hH sxKp.rf (Nat.le_refl _) (Nat.le_refl _) ?_ ?_ (fun q hq => (by cases hq))
  · cases hb
    rw [hl]
    unfold sxMin tuMe
    decide
  · intro u hu' τ' cl' cs' H' C S g1 g2 g3 g4 g5 g6 g7
    cases List.mem_singleton.mp hu'
    refine hgo J T τ' cl' cs' H' C S hJ (upi τ' g1 1 (by decide)) ((upi τ' g1 2 (by decide)).trans hb) g2 g3 g5 g6 ?_
    have := g7 _ rfl
    unfold sxLt3 sxMvs tuMe at this
    dsimp only at this
    rw [tuMv0, tuMv0] at this
    omega
  · intro p hp' cv τ' H' C S g1 g2 g3 g4 g5 g6
    cases List.mem_singleton.mp hp'
    obtain ⟨x, rfl, hx⟩ := tuRes g2
    exact hend x H' C S hx g5 g6
/-- with the text: facts are on -/
def tuPcF (J : Nat) : sxPt := ((tuPc J).1, (tuPc J).2.1, (tuPc J).2.2.1, (tuPc J).2.2.2.1, (tuPc J).2.2.2.2.1, (tuPc J).2.2.2.2.2.1, [], [(40, (0, .ofNat 0), (0, .ofNat 0), (2, .ofNat 0))])
theorem tuSegF {J : Nat} {sp : List (Nat × Nat × Nat)} {cs : List sxCt} {pc : Nat} (hJ : J = 3 ∨ J = 11) (n : Nat) (h : sxGo1 (tuJ J sp cs) (some tuMe) n (sxSt mjLaw pc (tuPcF J) 0 0) = true) (hV : ∀ {T : Nat}, ∀ c ∈ cs, sxCtV sxKw (ghL T v00) c) : tuGoodJ J pc := by
  intro T scr Z d τ cl H hd hH hp hb hsl hgo hend
  have hl : τ.length = 18 := hp.1.1
  have hpF : sxPtR T 579 (sxVw (ghL T v00) scr 579 H) τ (tuPcF J) cl [] := ⟨hp.1, hp.2.1, hp.2.2.1, hp.2.2.2.1, hp.2.2.2.2.1, hp.2.2.2.2.2.1, (fun q hq => by cases hq), fun q hq => by
    cases List.mem_singleton.mp hq
    exact ⟨0, 0, (tLn T : Int), ⟨0, hp.1.2, rfl⟩, ⟨0, hp.1.2, rfl⟩, ⟨_, hb, by simp⟩, rfl⟩⟩
  have hu : sxUp (τ.take 3) τ := by
    intro s z hs
    rw [List.getElem?_take] at hs
    split at hs
    · exact hs
    · cases hs
  have upi : ∀ τ', sxUp (τ.take 3) τ' → ∀ i, i < 3 → τ'[i]? = τ[i]? := by
    intro τ' h1 i hi
    have e : τ[i]? = some τ[i] := List.getElem?_eq_getElem (by omega)
    rw [e]
    exact h1 i _ (by rw [List.getElem?_take, if_pos hi, e])
  refine sxSegX (J := tuJ J sp cs) (p := tuPcF J) (C0 := 0) (S0 := 0) (v0 := sxVw (ghL T v00) scr 579 H) (τ0 := τ.take 3) (τ := τ) (me := some tuMe) n h ghGd (show sxKw.2.1 < mjScr by decide) (show 0 < 3 by decide) hV hd hu (by rw [List.length_take, hl]; rfl) (fun b hb => ?_) hsl hpF hH sxKp.rf (Nat.le_refl _) (Nat.le_refl _) ?_ ?_ (fun q hq => (by cases hq))
  · cases hb
    rw [hl]
    unfold sxMin tuMe
    decide
  · intro u hu' τ' cl' cs' H' C S g1 g2 g3 g4 g5 g6 g7
    cases List.mem_singleton.mp hu'
    refine hgo J T τ' cl' cs' H' C S hJ (upi τ' g1 1 (by decide)) ((upi τ' g1 2 (by decide)).trans hb) g2 g3 g5 g6 ?_
    have := g7 _ rfl
    unfold sxLt3 sxMvs tuMe at this
    dsimp only at this
    rw [tuMv0, tuMv0] at this
    omega
  · intro p hp' cv τ' H' C S g1 g2 g3 g4 g5 g6
    cases List.mem_singleton.mp hp'
    obtain ⟨x, rfl, hx⟩ := tuRes g2
    exact hend x H' C S hx g5 g6
/-- the other JAR stands: the same run, with the two changed -/
theorem tuSw {pc : Nat} (h3 : tuGoodJ 3 pc) : tuGoodJ 11 pc := by
  intro T scr Z d τ cl H hd hH hp hb hsl hgo hend
  have h19 : 19 ≤ H.length := by rw [hH.1]; decide
  have hp3 := sxPtR_sw (T := T) (V := v00) (scr := scr) h19 (p := tuPc 11) rfl (by decide +kernel) hp
  rw [show swPt (tuPc 11) = tuPc 3 from rfl] at hp3
  have hgo3 : tuGoOn scr (fun o => Z (swO o)) d τ := by
    intro J T' τ' cl' cs' H' C S hJ q1 q2 q3 q4 q5 q6 q7
    have h19' : 19 ≤ H'.length := by rw [q4.1]; decide
    have hpt : ∃ J', (J' = 3 ∨ J' = 11) ∧ swPt (tuP J) = tuP J' ∧ (tuP J).2.2.2.2.2.2.1 = [] ∧ (tuP J).2.2.2.2.2.1.all swQk = true := by
      rcases hJ with rfl | rfl
      · exact ⟨11, Or.inr rfl, rfl, rfl, by decide +kernel⟩
      · exact ⟨3, Or.inl rfl, rfl, rfl, by decide +kernel⟩
    obtain ⟨J', j1, j2, j3, j4⟩ := hpt
    have r := sxPtR_sw (T := T') (V := v00) (scr := scr) h19' j3 j4 q3
    rw [j2] at r
    have run := hgo J' T' τ' (rll swC cl') (rls swC cs') (swH H') C S j1 q1 q2 r (sxHR_sw q4) q5 q6 q7
    have run := mjRn_cc (by rw [swH_len]; exact h19') run
    rw [rll_sw, rls_sw, swH_sw] at run
    exact run
  have hend3 : tuEnd (fun o => Z (swO o)) := fun x H' C S hx hC hS => hend x (swH H') C S hx hC hS
  have key := h3 T scr (fun o => Z (swO o)) d τ (rll swC cl) (swH H) hd (sxHR_sw hH) hp3 hb hsl hgo3 hend3
  have key := mjRn_cc (by rw [swH_len]; exact h19) key
  rw [rll_sw, swH_sw] at key
  refine mjRn_mo (fun o ho => ?_) key
  have ho : Z (swO (swO o)) := ho
  rw [swO_sw] at ho
  exact ho
theorem tuGood3 {pc : Nat} (h : tuGoodJ 3 pc) : tuGood pc := ⟨h, tuSw h⟩
end TUSEG
