/-! jar's turn: from its first place back to the head -/
section TUJAR2
variable {J T : Nat} {V : rdVt} {scr : Option (List Int32)} {Z : mjO → Prop} {d : Nat} {H : mjH} {τ : List Int} {cl : mjL} {cs : List Value}
theorem tuSeg6 {P : sxPt} {cs : List sxCt} {pc : Nat} (hJ : J = 3 ∨ J = 11) (n : Nat) (h : sxGo1 (tuJ J [] cs) (some tuMe) n (sxSt mjLaw pc P 0 0) = true) (hV : ∀ c ∈ cs, sxCtV sxKw (ghL T v00) c) (hd : tuNeed ≤ d) (hH : sxHR sxKw H) (hp : sxPtR T 579 (sxVw (ghL T v00) scr 579 H) τ P cl []) (hP : 3 < P.1) (hb : τ[2]? = some (tLn T : Int)) (hsl : sxSl τ (some (1, 0)) scr) (hgo : tuGoOn scr Z d τ) (hend : tuEnd Z) : mjRn Z scr [] d mjLaw pc cl [] H 0 0 := by
  have hl : 3 < τ.length := by rw [hp.1.1]; exact hP
  have hu : sxUp (τ.take 3) τ := by
    intro s z hs
    rw [List.getElem?_take] at hs
    split at hs
    · exact hs
    · cases hs
  have upi : ∀ τ', sxUp (τ.take 3) τ' → ∀ i, i < 3 → τ'[i]? = τ[i]? := by
    intro τ' h1 i hi
    have e : τ[i]? = some τ[i] := List.getElem?_eq_getElem (by omega)
    rw [e]
    exact h1 i _ (by rw [List.getElem?_take, if_pos hi, e])
  refine sxSegX (J := tuJ J [] cs) (p := P) (C0 := 0) (S0 := 0) (v0 := sxVw (ghL T v00) scr 579 H) (τ0 := τ.take 3) (τ := τ) (me := some tuMe) n h ghGd (show sxKw.2.1 < mjScr by decide) (show 0 < 3 by decide) hV hd hu (by rw [List.length_take]; show min 3 τ.length = 3; omega) (fun b hb => ?_) hsl hp hH sxKp.rf (Nat.le_refl _) (Nat.le_refl _) ?_ ?_ (fun q hq => (by cases hq))
  · cases hb
    unfold sxMin tuMe
    refine ⟨⟨?_, ?_⟩, ⟨?_, ?_⟩, ?_, ?_⟩ <;> dsimp only <;> omega
  · intro u hu' τ' cl' cs' H' C S g1 g2 g3 g4 g5 g6 g7
    cases List.mem_singleton.mp hu'
    refine hgo J T τ' cl' cs' H' C S hJ (upi τ' g1 1 (by decide)) ((upi τ' g1 2 (by decide)).trans hb) g2 g3 g5 g6 ?_
    have := g7 _ rfl
    unfold sxLt3 sxMvs tuMe at this
    dsimp only at this
    rw [tuMv0, tuMv0] at this
    omega
  · intro p hp' cv τ' H' C S g1 g2 g3 g4 g5 g6
    cases List.mem_singleton.mp hp'
    obtain ⟨x, rfl, hx⟩ := tuRes g2
    exact hend x H' C S hx g5 g6
def tuP6 (J : Nat) : sxPt := (40, [(1, .ofNat 0, .ofNat 3072), (2, .ofNat 0, .ofNat 600), (3, .ofNat 0, .ofNat 3072), (4, .ofNat 0, .ofNat 600), (5, .ofNat 1, .ofNat 6), (6, .ofNat 0, .ofNat 12), (7, .ofNat 0, .ofNat 12), (8, .ofNat 0, .ofNat 5), (9, .ofNat 0, .ofNat 63), (10, .ofNat 0, .ofNat 4), (11, .ofNat 0, .ofNat 3), (12, .ofNat 0, .ofNat 63), (13, .ofNat 0, .ofNat 4), (14, .ofNat 0, .ofNat 63), (15, .ofNat 0, .ofNat 4), (16, .ofNat 0, .ofNat 63), (17, .ofNat 0, .ofNat 4), (18, .ofNat 0, .ofNat 600), (19, .negSucc 2147483647, .ofNat 2147483647), (20, .negSucc 2147483647, .ofNat 2147483647), (21, .negSucc 2147483647, .ofNat 2147483647), (22, .negSucc 2147483647, .ofNat 2147483647), (23, .negSucc 2147483647, .ofNat 2147483647), (24, .negSucc 2147483647, .ofNat 2147483647), (25, .ofNat 0, .ofNat 3072), (26, .ofNat 0, .ofNat 600), (27, .ofNat 1, .ofNat 6), (28, .ofNat 0, .ofNat 12), (29, .ofNat 0, .ofNat 12), (30, .ofNat 0, .ofNat 5), (31, .ofNat 0, .ofNat 63), (32, .ofNat 0, .ofNat 4), (33, .ofNat 0, .ofNat 3), (34, .ofNat 0, .ofNat 63), (35, .ofNat 0, .ofNat 4), (36, .ofNat 0, .ofNat 63), (37, .ofNat 0, .ofNat 4), (38, .ofNat 0, .ofNat 63), (39, .ofNat 0, .ofNat 4)], [(26, 18, .ofNat 0)], [(0, .inl 3000000), (1, .inl 0), (2, .inl 78), (3, .inl 578), (4, .inr (false, (25, .ofNat 0)))], [.inl 3000000, .inr (false, (25, .ofNat 0))], [(0, (0, .ofNat 2), .inl J), (0, (0, .ofNat 3), .inl (14 - J)), (1, (0, .ofNat 1), .inr (false, (26, .ofNat 0))), (78, (0, .ofNat 1), .inr (false, (26, .ofNat 0))), (579, (0, .ofNat 2), .inr (false, (0, .ofNat 1))), (579, (0, .ofNat 3), .inr (false, (0, .ofNat 1))), (579, (0, .ofNat 5), .inr (false, (0, .ofNat 1))), (579, (0, .ofNat 6), .inr (false, (0, .ofNat 1))), (579, (0, .ofNat (J + 17)), .inr (false, (0, .ofNat 1))), (579, (0, .ofNat (J + 18)), .inr (false, (0, .ofNat 1))), (579, (0, .ofNat (J + 19)), .inr (false, (0, .ofNat 1))), (579, (0, .ofNat (J + 20)), .inr (false, (0, .ofNat 1))), (579, (0, .ofNat (J + 35)), .inr (false, (0, .ofNat 1))), (579, (0, .ofNat 32), .inr (false, (0, .ofNat 1))), (579, (0, .ofNat 33), .inr (false, (0, .ofNat 1))), (579, (0, .ofNat 34), .inr (false, (0, .ofNat 1))), (579, (0, .ofNat 35), .inr (false, (0, .ofNat 1))), (579, (0, .ofNat 40), .inr (false, (0, .ofNat 1))), (J, (0, .ofNat 0), .inr (false, (27, .ofNat 0))), (82, (0, .ofNat 0), .inr (false, (27, .ofNat 0))), (J, (0, .ofNat 2), .inr (false, (28, .ofNat 0))), (82, (0, .ofNat 1), .inr (false, (28, .ofNat 0))), (J, (0, .ofNat 3), .inr (false, (29, .ofNat 0))), (82, (0, .ofNat 2), .inr (false, (29, .ofNat 0))), (J, (0, .ofNat 4), .inr (false, (30, .ofNat 0))), (82, (0, .ofNat 3), .inr (false, (30, .ofNat 0))), (27, (0, .ofNat 2), .inr (false, (31, .ofNat 0))), (82, (0, .ofNat 4), .inr (false, (31, .ofNat 0))), (27, (0, .ofNat 1), .inr (false, (32, .ofNat 0))), (82, (0, .ofNat 5), .inr (false, (32, .ofNat 0))), (0, (0, .ofNat 9), .inr (false, (33, .ofNat 0))), (78, (0, .ofNat 22), .inr (false, (33, .ofNat 0))), (52, (0, .ofNat 2), .inr (false, (34, .ofNat 0))), (92, (0, .ofNat 0), .inr (false, (34, .ofNat 0))), (52, (0, .ofNat 1), .inr (false, (35, .ofNat 0))), (92, (0, .ofNat 1), .inr (false, (35, .ofNat 0))), (54, (0, .ofNat 2), .inr (false, (36, .ofNat 0))), (93, (0, .ofNat 0), .inr (false, (36, .ofNat 0))), (54, (0, .ofNat 1), .inr (false, (37, .ofNat 0))), (93, (0, .ofNat 1), .inr (false, (37, .ofNat 0))), (56, (0, .ofNat 2), .inr (false, (38, .ofNat 0))), (94, (0, .ofNat 0), .inr (false, (38, .ofNat 0))), (56, (0, .ofNat 1), .inr (false, (39, .ofNat 0))), (94, (0, .ofNat 1), .inr (false, (39, .ofNat 0)))], [], [])
def tuTh6 : List sxN := [(0, 0), (1, 0), (18, 0), (25, 0), (26, 0), (27, 0), (28, 0), (29, 0), (30, 0), (31, 0), (32, 0), (33, 0), (34, 0), (35, 0), (36, 0), (37, 0), (38, 0), (39, 0)]
def tuB6 (J : Nat) : sxB := (40, (tuP6 J).2.1, (tuP6 J).2.2.1, [], [])
set_option maxRecDepth 1000000 in
theorem tuI6 {J : Nat} (hJ : J = 3 ∨ J = 11) : sxIncl 2 tuTh6 (tuP J) (tuP6 J).2.2.2.1 (tuP6 J).2.2.2.2.1 (tuB6 J) (tuP6 J).2.2.2.2.2.1 [] = true := by rcases hJ with rfl | rfl <;> decide +kernel
def tuJI (M : sxMo) (nd : Nat) (cs : List sxCt) : sxJb := ((sxKw, M, nd, some (1, 0)), cs, mjLaw, [(26, tuP6 3, ((1, 25, .ofNat 0), (0, 0, .ofNat 0), (0, 0, .ofNat 0)), 1, 6), (26, tuP6 11, ((1, 25, .ofNat 0), (0, 0, .ofNat 0), (0, 0, .ofNat 0)), 1, 6)], 25, [], [], (1, 6), [])
theorem tuIn {P : sxPt} {cs : List sxCt} {pc nd : Nat} {M : sxMo} {x : Int} (n : Nat) (h : sxGo1 (tuJI M nd cs) (some tuMe) n (sxSt mjLaw pc P 0 0) = true) (hV : ∀ c ∈ cs, sxCtV sxKw (ghL T V) c) (hd : nd ≤ d) (hH : sxHR sxKw H) (hp : sxPtR T 579 (sxVw (ghL T V) scr 579 H) τ P cl []) (hP : P.1 = 25) (hx : τ[18]? = some x) (hxT : (tLn T : Int) = x) (hsl : sxSl τ (some (1, 0)) scr) (hgo : tuGoOn scr Z d τ) : mjRn Z scr [] d mjLaw pc cl [] H 0 0 := by
  have hl : τ.length = 25 := by rw [hp.1.1]; exact hP
  refine sxSegX (J := tuJI M nd cs) (p := P) (C0 := 0) (S0 := 0) (v0 := sxVw (ghL T V) scr 579 H) (τ0 := τ) (τ := τ) (me := some tuMe) n h ghGd (show sxKw.2.1 < mjScr by decide) (show 0 < 25 by decide) hV hd sxUp.rf hl (fun b hb => ?_) hsl hp hH sxKp.rf (Nat.le_refl _) (Nat.le_refl _) ?_ (fun p hp => (by cases hp)) (fun q hq => (by cases hq))
  · cases hb
    rw [hl]
    unfold sxMin tuMe
    decide
  · intro u hu' τ' cl' cs' H' C S g1 g2 g3 g4 g5 g6 g7
    have hu2 : ∃ J, (J = 3 ∨ J = 11) ∧ u = (26, tuP6 J, ((1, 25, .ofNat 0), (0, 0, .ofNat 0), (0, 0, .ofNat 0)), 1, 6) := by
      rcases List.mem_cons.mp hu' with e | hu'
      · exact ⟨3, Or.inl rfl, e⟩
      · exact ⟨11, Or.inr rfl, List.mem_singleton.mp hu'⟩
    clear hu'
    obtain ⟨J, hJ, rfl⟩ := hu2
    have g2 : sxPtR T 579 (sxVw (ghL T V) scr 579 H') τ' (tuP6 J) cl' cs' := g2
    have g2 := rdTo (V' := v00) (show rdAv (tuP6 J) = true by rcases hJ with rfl | rfl <;> decide +kernel) g2
    obtain ⟨m1, m2, m3, m4, m5, m6, m7, m8⟩ := g2
    have hB2 : sxBR T τ' (tuB6 J) := ⟨m1, m2, m3, (fun q hq => by cases hq), fun q hq => by cases hq⟩
    obtain ⟨j1, j2⟩ := sxIncl_ok (r := 2) (n := 579) (vw := sxVw (ghL T v00) scr 579 H') (cl := cl') (cs := cs') hB2 m4 m5 m6 (fun q hq => by cases hq) (by decide) (tuI6 hJ)
    have hlong : 1 < τ'.length := by rw [m1.1]; rcases hJ with rfl | rfl <;> decide
    have w1 : (sxSb τ' tuTh6)[1]? = τ'[1]? := by
      rw [j2 1 (by decide), List.getD_eq_getElem?_getD, List.getElem?_eq_getElem hlong]
      rfl
    have e1 : τ'[1]? = τ[1]? := by
      have e : τ[1]? = some τ[1] := List.getElem?_eq_getElem (by omega)
      rw [e]
      exact g1 1 _ e
    have e5 : τ'[18]? = some x := g1 18 _ hx
    refine hgo J T _ cl' cs' H' C S hJ (w1.trans e1) ?_ j1 g3 g5 g6 ?_
    · show some (sxEv τ' (18, 0)) = _
      unfold sxEv
      rw [List.getD_eq_getElem?_getD, e5]
      exact congrArg some (by simp only [Option.getD_some]; omega)
    · have k7 := g7 _ rfl
      unfold sxLt3 sxMvs tuMe at k7
      dsimp only at k7
      simp only [Int.ofNat_eq_natCast, Int.natCast_zero] at k7
      rw [tuMv0, tuMv0] at k7
      have k7 : sxMv τ' (1, 25, 0) < sxMv τ (1, 3, 0) := by omega
      refine Int.lt_of_le_of_lt (Int.le_of_eq ?_) k7
      unfold sxMv
      dsimp only
      have c1 : (sxSb τ' tuTh6).getD 1 0 = τ'.getD 1 0 := by rw [List.getD_eq_getElem?_getD, w1, ← List.getD_eq_getElem?_getD]
      have c2 : (sxSb τ' tuTh6).getD 3 0 = τ'.getD 25 0 + 0 := rfl
      rw [c1, c2]
      omega
end TUJAR2
