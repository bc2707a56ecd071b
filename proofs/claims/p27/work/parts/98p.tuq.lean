/-! a query's turn, given its pair -/
noncomputable section TUQ
variable {J T : Nat} {V : rdVt} {scr : Option (List Int32)} {Z : mjO → Prop} {d : Nat} {H : mjH} {τ : List Int} {cl : mjL} {cs : List Value}
theorem tuSegV {sp : List (Nat × Nat × Nat)} {P : sxPt} {cs : List sxCt} {pc : Nat} (hJ : J = 3 ∨ J = 11) (n : Nat) (h : sxGo1 (tuJ J sp cs) (some tuMe) n (sxSt mjLaw pc P 0 0) = true) (hV : ∀ c ∈ cs, sxCtV sxKw (ghL T V) c) (hd : tuNeed ≤ d) (hH : sxHR sxKw H) (hp : sxPtR T 579 (sxVw (ghL T V) scr 579 H) τ P cl []) (hP : 3 < P.1) (hb : τ[2]? = some (tLn T : Int)) (hsl : sxSl τ (some (1, 0)) scr) (hgo : tuGoOn scr Z d τ) (hend : tuEnd Z) : mjRn Z scr [] d mjLaw pc cl [] H 0 0 := by
  have hl : 3 < τ.length := by rw [hp.1.1]; exact hP
  have hu : sxUp (τ.take 3) τ := by
    intro s z hs
    rw [List.getElem?_take] at hs
    split at hs
    · exact hs
    · cases hs
  have upi : ∀ τ', sxUp (τ.take 3) τ' → ∀ i, i < 3 → τ'[i]? = τ[i]? := by
    intro τ' h1 i hi
    have e : τ[i]? = some τ[i] := List.getElem?_eq_getElem (by omega)
    rw [e]
    exact h1 i _ (by rw [List.getElem?_take, if_pos hi, e])
  refine sxSegX (J := tuJ J sp cs) (p := P) (C0 := 0) (S0 := 0) (v0 := sxVw (ghL T V) scr 579 H) (τ0 := τ.take 3) (τ := τ) (me := some tuMe) n h ghGd (show sxKw.2.1 < mjScr by decide) (show 0 < 3 by decide) hV hd hu (by rw [List.length_take]; show min 3 τ.length = 3; omega) (fun b hb => ?_) hsl hp hH sxKp.rf (Nat.le_refl _) (Nat.le_refl _) ?_ ?_ (fun q hq => (by cases hq))
  · cases hb
    unfold sxMin tuMe
    refine ⟨⟨?_, ?_⟩, ⟨?_, ?_⟩, ?_, ?_⟩ <;> dsimp only <;> omega
  · intro u hu' τ' cl' cs' H' C S g1 g2 g3 g4 g5 g6 g7
    cases List.mem_singleton.mp hu'
    refine hgo J T τ' cl' cs' H' C S hJ (upi τ' g1 1 (by decide)) ((upi τ' g1 2 (by decide)).trans hb) (rdTo (V' := v00) (show rdAv (tuP J) = true by rcases hJ with rfl | rfl <;> decide +kernel) g2) g3 g5 g6 ?_
    have := g7 _ rfl
    unfold sxLt3 sxMvs tuMe at this
    dsimp only at this
    rw [tuMv0, tuMv0] at this
    omega
  · intro p hp' cv τ' H' C S g1 g2 g3 g4 g5 g6
    cases List.mem_singleton.mp hp'
    obtain ⟨x, rfl, hx⟩ := tuRes g2
    exact hend x H' C S hx g5 g6
/-- places that speak of the numbers alone stand -/
theorem tuOV {V' : rdVt} {O : sxO} (h0 : τ[0]? = some 0) (hall : O.all (fun q => match Nat.beq q.1 579 with | false => true | true => match Nat.beq q.2.1.1 0 with | true => (match iLe q.2.1.2 6 with | true => true | false => iLe 20 q.2.1.2) | false => false) = true) (hO : sxOR (sxVw (ghL T V) scr 579 H) τ O) : sxOR (sxVw (ghL T V') scr 579 H) τ O := by
  intro q hq
  obtain ⟨z, v, a1, a2, a3, a4⟩ := hO q hq
  refine ⟨z, v, a1, a2, ?_, a4⟩
  rw [rdVw (V' := V)]
  · exact a3
  · rintro ⟨w1, w2⟩
    have hb := List.all_eq_true.mp hall q hq
    rw [w1] at hb
    dsimp only at hb
    split at hb
    · rename_i w3
      obtain ⟨y, y1, y2⟩ := a1
      rw [Nat.eq_of_beq_eq_true w3, h0] at y1
      cases Option.some.inj y1
      split at hb
      · rename_i w4
        have := iLe_ok w4
        omega
      · have := iLe_ok hb
        omega
    · cases hb
/-- the case's start with what the pair is tied to, and with the answer -/
def tuQc (kd : Bool) (J : Nat) (u : qTie) : sxPt := (18 + 1, (tuPc J).2.1 ++ [(18, (qRng kd).1, (qRng kd).2)], (tuPc J).2.2.1, (tuPc J).2.2.2.1, [], (tuPc J).2.2.2.2.2.1 ++ (qTo u ++ [(579, (0, .ofNat (qPl kd)), .inr (kd, (18, .ofNat 0)))]), [], [(40, (0, .ofNat 0), (0, .ofNat 0), (2, .ofNat 0))])
/-- the right head with its ties -/
def qRh (t : qTie) (c : pxCt) : sxPt := (c.2.2.1.2.1, c.2.2.1.2.2.1, c.2.2.1.2.2.2.1, c.2.2.1.2.2.2.2.1, c.2.2.1.2.2.2.2.2.1, c.2.2.1.2.2.2.2.2.2.1 ++ qTo t, c.2.2.1.2.2.2.2.2.2.2.1, c.2.2.1.2.2.2.2.2.2.2.2)
def tuQB (J : Nat) : sxB := (18, (tuPc J).2.1, (tuPc J).2.2.1, [], [])
def tuQu (J : Nat) (u : qTie) : Bool := u.all (fun q => (Nat.beq q.1 (5 + q.2) && Nat.blt q.2 10) && match sxRg (tuQB J) (q.1, 0) with | some r => iLe (-2147483648) r.1 && iLe r.2 2147483647 | none => false)
theorem tuQry {sp : List (Nat × Nat × Nat)} {kd : Bool} {t u : qTie} {c : pxCt} {ks : List sxCt} {pc m : Nat} {θ : List sxN} (hJ : J = 3 ∨ J = 11) (hm : sxGo1 (tuJ J sp ks) (some tuMe) m (sxSt mjLaw pc (tuQc kd J u) 0 0) = true)
    (hV : ∀ (T : Nat) (V : rdVt), qOk kd t c T V → ∀ c' ∈ ks, sxCtV sxKw (ghL T V) c') (hc : ∀ (T : Nat) (V : rdVt), pxCtV sxKw (ghL T V) c) (hchk : qChk kd t c = true) (hk : t.all (fun q => Nat.blt q.2 10) = true) (hu : tuQu J u = true)
    (hR : sxIncl 1 θ (qRh t c) [(0, .inl 78)] [] (tuQB J) ((tuPc J).2.2.2.2.2.1 ++ qTo u) [] = true) : tuGoodJ J pc := by
  intro T scr Z d τ cl H hd hH hp hb hsl hgo hend
  have hl : τ.length = 18 := hp.1.1
  obtain ⟨p1, p2, p3, p4, p5, p6, p7, p8⟩ := hp
  have hB : sxBR T τ (tuQB J) := ⟨⟨hl, p1.2⟩, p2, p3, (fun q hq => by cases hq), fun q hq => by cases hq⟩
  have hall : (tuPc J).2.2.2.2.2.1.all (fun q => match Nat.beq q.1 579 with | false => true | true => match Nat.beq q.2.1.1 0 with | true => (match iLe q.2.1.2 6 with | true => true | false => iLe 20 q.2.1.2) | false => false) = true := by rcases hJ with rfl | rfl <;> decide +kernel
  -- the numbers
  have hw : ∀ q ∈ u, τ[q.1]? = some (τ.getD (5 + q.2) 0) ∧ (Int32.ofInt (τ.getD (5 + q.2) 0)).toInt = τ.getD (5 + q.2) 0 ∧ q.2 < 10 := by
    intro q hq
    have h := List.all_eq_true.mp hu q hq
    rw [Bool.and_eq_true, Bool.and_eq_true] at h
    obtain ⟨⟨h1, h2⟩, h3⟩ := h
    have h1 := Nat.eq_of_beq_eq_true h1
    split at h3
    · rename_i r hr
      rw [Bool.and_eq_true] at h3
      obtain ⟨z, hz⟩ := sxRg_ex hB hr
      have h4 := sxRg_ok hB hr hz
      have h5 := iLe_ok h3.1
      have h6 := iLe_ok h3.2
      obtain ⟨y, y1, y2⟩ := hz
      dsimp only at y1 y2
      have e : τ.getD (5 + q.2) 0 = y := by rw [← h1, List.getD_eq_getElem?_getD, y1]; rfl
      rw [e]
      exact ⟨y1, i32_of (by omega) (by omega), bltOk h2⟩
    · cases h3
  have hU : ∀ V : rdVt, V.2.2 = (fun k => τ.getD (5 + k) 0) → sxOR (sxVw (ghL T V) scr 579 H) τ (qTo u) := by
    intro V hVw q hq
    obtain ⟨s, hs, rfl⟩ := List.mem_map.mp hq
    obtain ⟨w1, w2, w3⟩ := hw s hs
    refine ⟨((9 + s.2 : Nat) : Int), .int (Int32.ofInt (V.2.2 s.2)), ⟨0, p1.2, by simp⟩, Int.natCast_nonneg _, ?_, _, rfl, _, w1, ?_⟩
    · show sxVw (ghL T V) scr 579 H 579 (9 + s.2) = _
      rw [gvG, show 9 + s.2 = (s.2 + 2) + 7 by omega]
      refine Eq.trans (ghX_lt (show s.2 + 2 < 13 by omega)) ?_
      unfold ghT
      rw [if_neg (by omega), if_neg (by omega), if_neg (by omega), if_pos (by omega), show s.2 + 2 - 2 = s.2 by omega]
    · rw [hVw]
      dsimp only
      rw [w2]
      simp
  have hO : ∀ V : rdVt, sxOR (sxVw (ghL T V) scr 579 H) τ (tuPc J).2.2.2.2.2.1 := fun V => tuOV (V := v00) p1.2 hall p6
  -- the right head stands here
  have hls : sxLR 579 τ [(0, .inl 78)] [(0, .ref 78)] := sxLR_of (fun q hq => by cases List.mem_singleton.mp hq; exact ⟨_, rfl, rfl⟩) (fun q hq => by cases List.mem_singleton.mp hq; decide)
  obtain ⟨i1, i2⟩ := sxIncl_ok (r := 1) (n := 579) (vw := sxVw (ghL T (0, 0, fun k => τ.getD (5 + k) 0)) scr 579 H) (cl := [(0, .ref 78)]) (cs := []) hB hls (show sxSR τ [] [] from trivial) (gApp (hO _) (hU _ rfl)) (fun q hq => by cases hq) (by decide) hR
  obtain ⟨r1, r2, r3, r4, r5, r6, r7, r8⟩ := i1
  obtain ⟨V, hVw, hOk⟩ := qEx (w := fun k => τ.getD (5 + k) 0) (scr' := scr) (cl' := [(0, .ref 78)]) (hc T) hchk hk hH ⟨r1, r2, r3, r4, r5, fun q hq => r6 q (List.mem_append_left _ hq), r7, r8⟩ (fun q hq => r6 q (List.mem_append_right _ hq))
  -- the start
  obtain ⟨z, z1, z2, z3⟩ : ∃ z, sxVR (τ ++ [z]) (.inr (kd, (18, .ofNat 0))) (qAns kd V.1) ∧ (qRng kd).1 ≤ z ∧ z ≤ (qRng kd).2 := by
    have e : ∀ z, (τ ++ [z])[18]? = some z := fun z => by rw [List.getElem?_append_right (by omega), hl]; rfl
    cases kd with
    | false =>
      have h1 := Int32.le_toInt (Int32.ofInt V.1)
      have h2 := Int32.toInt_lt (Int32.ofInt V.1)
      exact ⟨_, ⟨_, rfl, _, e (Int32.ofInt V.1).toInt, by simp⟩, by simp only [qRng]; omega, by simp only [qRng]; omega⟩
    | true =>
      have h := i64_rg (Int64.ofInt V.1)
      exact ⟨_, ⟨_, rfl, _, e (Int64.ofInt V.1).toInt, by simp⟩, by simp only [qRng]; omega, by simp only [qRng]; omega⟩
  have up : sxUp τ (τ ++ [z]) := sxUp.app _ _
  have e18 : (τ ++ [z])[18]? = some z := by rw [List.getElem?_append_right (by omega), hl]; rfl
  have hp' : sxPtR T 579 (sxVw (ghL T V) scr 579 H) (τ ++ [z]) (tuQc kd J u) cl [] := by
    refine ⟨⟨by rw [List.length_append, hl]; rfl, up _ _ p1.2⟩, fun q hq => ?_, fun q hq => ?_, p4.up up, trivial, fun q hq => ?_, (fun q hq => by cases hq), fun q hq => ?_⟩
    · rcases List.mem_append.mp hq with hq | hq
      · exact (p2 q hq).up up
      · cases List.mem_singleton.mp hq
        exact ⟨z, e18, z2, z3⟩
    · exact (p3 q hq).up up
    · rcases List.mem_append.mp hq with hq | hq
      · exact (hO V).up up q hq
      · rcases List.mem_append.mp hq with hq | hq
        · exact (hU V hVw).up up q hq
        · cases List.mem_singleton.mp hq
          exact ⟨((qPl kd : Nat) : Int), qAns kd V.1, ⟨0, up _ _ p1.2, by simp⟩, Int.natCast_nonneg _, qPl_ok, z1⟩
    · cases List.mem_singleton.mp hq
      exact ⟨0, 0, (tLn T : Int), ⟨0, up _ _ p1.2, rfl⟩, ⟨0, up _ _ p1.2, rfl⟩, ⟨_, up _ _ hb, by simp⟩, rfl⟩
  refine tuSegV (T := T) (V := V) hJ m hm (hV T V hOk) hd hH hp' (show 3 < 18 + 1 by decide) (up _ _ hb) ?_ (tuGoOn6 hl hgo) hend
  obtain ⟨xs, s1, s2, y, s3, s4⟩ := hsl
  exact ⟨xs, s1, s2, y, up _ _ s3, s4⟩
end TUQ
