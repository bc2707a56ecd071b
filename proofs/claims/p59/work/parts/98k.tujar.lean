/-! jar's turn: from its first place back to the head -/
section TUJAR2
variable {T : Nat} {V : Int × Int} {scr : Option (List Int32)} {Z : mjO → Prop} {d : Nat} {H : mjH} {τ : List Int} {cl : mjL} {cs : List Value}
theorem tuSeg6 {P : sxPt} {cs : List sxCt} {pc : Nat} (n : Nat) (h : sxGo1 (tuJ cs) (some tuMe) n (sxSt mjLaw pc P 0 0) = true) (hV : ∀ c ∈ cs, sxCtV sxKw (ghL T (0, 0)) c) (hd : tuNeed ≤ d) (hH : sxHR sxKw H) (hp : sxPtR T 579 (sxVw (ghL T (0, 0)) scr 579 H) τ P cl []) (hP : 3 < P.1) (hb : τ[2]? = some (tLn T : Int)) (hsl : sxSl τ (some (1, 0)) scr) (hgo : tuGoOn scr Z d τ) (hend : tuEnd Z) : mjRn Z scr [] d mjLaw pc cl [] H 0 0 := by
  have hl : 3 < τ.length := by rw [hp.1.1]; exact hP
  have hu : sxUp (τ.take 3) τ := by
    intro s z hs
    rw [List.getElem?_take] at hs
    split at hs
    · exact hs
    · cases hs
  have upi : ∀ τ', sxUp (τ.take 3) τ' → ∀ i, i < 3 → τ'[i]? = τ[i]? := by
    intro τ' h1 i hi
    have e : τ[i]? = some τ[i] := List.getElem?_eq_getElem (by omega)
    rw [e]
    exact h1 i _ (by rw [List.getElem?_take, if_pos hi, e])
  refine sxSegX (J := tuJ cs) (p := P) (C0 := 0) (S0 := 0) (v0 := sxVw (ghL T (0, 0)) scr 579 H) (τ0 := τ.take 3) (τ := τ) (me := some tuMe) n h ghGd (show sxKw.2.1 < mjScr by decide) (show 0 < 3 by decide) hV hd hu (by rw [List.length_take]; show min 3 τ.length = 3; omega) (fun b hb => ?_) hsl hp hH sxKp.rf (Nat.le_refl _) (Nat.le_refl _) ?_ ?_ (fun q hq => (by cases hq))
  · cases hb
    unfold sxMin tuMe
    refine ⟨⟨?_, ?_⟩, ⟨?_, ?_⟩, ?_, ?_⟩ <;> dsimp only <;> omega
  · intro u hu' τ' cl' cs' H' C S g1 g2 g3 g4 g5 g6 g7
    cases List.mem_singleton.mp hu'
    refine hgo T τ' cl' cs' H' C S (upi τ' g1 1 (by decide)) ((upi τ' g1 2 (by decide)).trans hb) g2 g3 g5 g6 ?_
    have := g7 _ rfl
    unfold sxLt3 sxMvs tuMe at this
    dsimp only at this
    rw [tuMv0, tuMv0] at this
    omega
  · intro p hp' cv τ' H' C S g1 g2 g3 g4 g5 g6
    cases List.mem_singleton.mp hp'
    obtain ⟨x, rfl, hx⟩ := tuRes g2
    exact hend x H' C S hx g5 g6
def tuP6 : sxPt := (10, [(1, .ofNat 0, .ofNat 3072), (2, .ofNat 0, .ofNat 600), (3, .ofNat 0, .ofNat 3072), (4, .ofNat 0, .ofNat 600), (5, .ofNat 0, .ofNat 3), (6, .ofNat 0, .ofNat 600), (7, .ofNat 0, .ofNat 3072), (8, .ofNat 0, .ofNat 600), (9, .ofNat 0, .ofNat 3)], [(8, 6, .ofNat 0)], [(0, .inl 3000000), (1, .inl 0), (2, .inl 78), (3, .inl 578), (4, .inr (false, (7, .ofNat 0)))], [.inl 3000000, .inr (false, (7, .ofNat 0))], [(1, (0, .ofNat 1), .inr (false, (8, .ofNat 0))), (78, (0, .ofNat 1), .inr (false, (8, .ofNat 0))), (579, (0, .ofNat 2), .inr (false, (0, .ofNat 1))), (579, (0, .ofNat 3), .inr (false, (0, .ofNat 1))), (579, (0, .ofNat 5), .inr (false, (0, .ofNat 1))), (579, (0, .ofNat 6), .inr (false, (0, .ofNat 1))), (0, (0, .ofNat 9), .inr (false, (9, .ofNat 0))), (78, (0, .ofNat 22), .inr (false, (9, .ofNat 0)))], [], [])
def tuTh6 : List sxN := [(0, 0), (1, 0), (6, 0), (7, 0), (8, 0), (9, 0)]
def tuB6 : sxB := (10, tuP6.2.1, tuP6.2.2.1, [], [])
set_option maxRecDepth 1000000 in
theorem tuI6 : sxIncl 2 tuTh6 tuP tuP6.2.2.2.1 tuP6.2.2.2.2.1 tuB6 tuP6.2.2.2.2.2.1 [] = true := by decide +kernel
def tuJI (M : sxMo) (nd : Nat) (cs : List sxCt) : sxJb := ((sxKw, M, nd, some (1, 0)), cs, mjLaw, [(26, tuP6, ((1, 7, .ofNat 0), (0, 0, .ofNat 0), (0, 0, .ofNat 0)), 1, 6)], 7, [], [], (1, 6), [])
theorem tuIn {P : sxPt} {cs : List sxCt} {pc nd : Nat} {M : sxMo} {x : Int} (n : Nat) (h : sxGo1 (tuJI M nd cs) (some tuMe) n (sxSt mjLaw pc P 0 0) = true) (hV : ∀ c ∈ cs, sxCtV sxKw (ghL T V) c) (hd : nd ≤ d) (hH : sxHR sxKw H) (hp : sxPtR T 579 (sxVw (ghL T V) scr 579 H) τ P cl []) (hP : P.1 = 7) (hx : τ[6]? = some x) (hxT : (tLn T : Int) = x) (hsl : sxSl τ (some (1, 0)) scr) (hgo : tuGoOn scr Z d τ) : mjRn Z scr [] d mjLaw pc cl [] H 0 0 := by
  have hl : τ.length = 7 := by rw [hp.1.1]; exact hP
  refine sxSegX (J := tuJI M nd cs) (p := P) (C0 := 0) (S0 := 0) (v0 := sxVw (ghL T V) scr 579 H) (τ0 := τ) (τ := τ) (me := some tuMe) n h ghGd (show sxKw.2.1 < mjScr by decide) (show 0 < 7 by decide) hV hd sxUp.rf hl (fun b hb => ?_) hsl hp hH sxKp.rf (Nat.le_refl _) (Nat.le_refl _) ?_ (fun p hp => (by cases hp)) (fun q hq => (by cases hq))
  · cases hb
    rw [hl]
    unfold sxMin tuMe
    decide
  · intro u hu' τ' cl' cs' H' C S g1 g2 g3 g4 g5 g6 g7
    cases List.mem_singleton.mp hu'
    have g2 : sxPtR T 579 (sxVw (ghL T V) scr 579 H') τ' tuP6 cl' cs' := g2
    have g2 := rdTo (V' := (0, 0)) (show rdAv tuP6 = true by decide +kernel) g2
    obtain ⟨m1, m2, m3, m4, m5, m6, m7, m8⟩ := g2
    have hB2 : sxBR T τ' tuB6 := ⟨m1, m2, m3, (fun q hq => by cases hq), fun q hq => by cases hq⟩
    obtain ⟨j1, j2⟩ := sxIncl_ok (r := 2) (n := 579) (vw := sxVw (ghL T (0, 0)) scr 579 H') (cl := cl') (cs := cs') hB2 m4 m5 m6 (fun q hq => by cases hq) (by decide) tuI6
    have hlong : 1 < τ'.length := by rw [m1.1]; decide
    have w1 : (sxSb τ' tuTh6)[1]? = τ'[1]? := by
      rw [j2 1 (by decide), List.getD_eq_getElem?_getD, List.getElem?_eq_getElem hlong]
      rfl
    have e1 : τ'[1]? = τ[1]? := by
      have e : τ[1]? = some τ[1] := List.getElem?_eq_getElem (by omega)
      rw [e]
      exact g1 1 _ e
    have e5 : τ'[6]? = some x := g1 6 _ hx
    refine hgo T _ cl' cs' H' C S (w1.trans e1) ?_ j1 g3 g5 g6 ?_
    · show some (sxEv τ' (6, 0)) = _
      unfold sxEv
      rw [List.getD_eq_getElem?_getD, e5]
      exact congrArg some (by simp only [Option.getD_some]; omega)
    · have k7 := g7 _ rfl
      unfold sxLt3 sxMvs tuMe at k7
      dsimp only at k7
      simp only [Int.ofNat_eq_natCast, Int.natCast_zero] at k7
      rw [tuMv0, tuMv0] at k7
      have k7 : sxMv τ' (1, 7, 0) < sxMv τ (1, 3, 0) := by omega
      refine Int.lt_of_le_of_lt (Int.le_of_eq ?_) k7
      unfold sxMv
      dsimp only
      have c1 : (sxSb τ' tuTh6).getD 1 0 = τ'.getD 1 0 := by rw [List.getD_eq_getElem?_getD, w1, ← List.getD_eq_getElem?_getD]
      have c2 : (sxSb τ' tuTh6).getD 3 0 = τ'.getD 7 0 + 0 := rfl
      rw [c1, c2]
      omega
end TUJAR2
