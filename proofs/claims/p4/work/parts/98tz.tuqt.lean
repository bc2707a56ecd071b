/-! a query that reads the text: its turn, given its pair -/
noncomputable section TUQT
variable {J T : Nat} {V : rdVt} {scr : Option (List Int32)} {Z : mjO → Prop} {d : Nat} {H : mjH} {τ : List Int} {cl : mjL} {cs : List Value}
theorem tuQex {kd : Bool} {t u : qTie} {c : pxCt} {θ : List sxN} {P : sxPt} {ls : sxL} {σ : List Int} (hc : ∀ V : rdVt, pxCtV sxKw (ghL T V) c) (hchk : qChk kd t c = true) (hk : t.all (fun q => Nat.blt q.2 10) = true) (hu : tuQuP P u = true)
    (hav : P.2.2.2.2.2.1.all (fun q => match Nat.beq q.1 579 with | false => true | true => match Nat.beq q.2.1.1 0 with | true => (match iLe q.2.1.2 6 with | true => true | false => iLe 20 q.2.1.2) | false => false) = true)
    (hst : (match P.2.2.2.2.1, P.2.2.2.2.2.2.1 with | [], [] => Nat.blt 3 P.1 | _, _ => false) = true) (hls : ls.all (fun q => qVok (tuQBP P) q.2) = true) (hR : sxIncl 1 θ (qRh t c) ls [] (tuQBP P) (P.2.2.2.2.2.1 ++ qTo u) [] = true)
    (hH : sxHR sxKw H) (hp : sxPtR T 579 (sxVw (ghL T v00) scr 579 H) σ P cl []) : ∃ (V : rdVt) (z : Int), qOk kd t c T V ∧ sxPtR T 579 (sxVw (ghL T V) scr 579 H) (σ ++ [z]) (tuQw kd P u) cl [] := by
  obtain ⟨p1, p2, p3, p4, p5, p6, p7, p8⟩ := hp
  have hst2 : P.2.2.2.2.1 = [] ∧ P.2.2.2.2.2.2.1 = [] ∧ 3 < P.1 := by
    split at hst
    · rename_i e1 e2
      exact ⟨e1, e2, bltOk hst⟩
    · cases hst
  obtain ⟨s1, s2, s3⟩ := hst2
  have hl : σ.length = P.1 := p1.1
  have hB : sxBR T σ (tuQBP P) := ⟨⟨hl, p1.2⟩, p2, p3, (fun q hq => by cases hq), fun q hq => by cases hq⟩
  -- the numbers
  have hw : ∀ q ∈ u, σ[q.1]? = some (tuQN σ u q.2) ∧ (Int32.ofInt (tuQN σ u q.2)).toInt = tuQN σ u q.2 ∧ q.2 < 10 := by
    intro q hq
    have h := List.all_eq_true.mp hu q hq
    rw [Bool.and_eq_true, Bool.and_eq_true] at h
    obtain ⟨⟨h1, h2⟩, h3⟩ := h
    have en : tuQN σ u q.2 = σ.getD q.1 0 := by
      unfold tuQN
      split at h2
      · rename_i s hs
        try rw [hs]
        try dsimp only
        rw [Nat.eq_of_beq_eq_true h2]
      · cases h2
    split at h3
    · rename_i r hr
      rw [Bool.and_eq_true] at h3
      obtain ⟨z, hz⟩ := sxRg_ex hB hr
      have h4 := sxRg_ok hB hr hz
      have h5 := iLe_ok h3.1
      have h6 := iLe_ok h3.2
      obtain ⟨y, y1, y2⟩ := hz
      dsimp only at y1 y2
      have e : σ.getD q.1 0 = y := by rw [List.getD_eq_getElem?_getD, y1]; rfl
      rw [en, e]
      exact ⟨y1, i32_of (by omega) (by omega), bltOk h1⟩
    · cases h3
  have hU : ∀ V : rdVt, V.2.2 = tuQN σ u → sxOR (sxVw (ghL T V) scr 579 H) σ (qTo u) := by
    intro V hVw q hq
    obtain ⟨s, hs, rfl⟩ := List.mem_map.mp hq
    obtain ⟨w1, w2, w3⟩ := hw s hs
    refine ⟨((9 + s.2 : Nat) : Int), .int (Int32.ofInt (V.2.2 s.2)), ⟨0, p1.2, by simp⟩, Int.natCast_nonneg _, ?_, _, rfl, _, w1, ?_⟩
    · show sxVw (ghL T V) scr 579 H 579 (9 + s.2) = _
      rw [gvG, show 9 + s.2 = (s.2 + 2) + 7 by omega]
      refine Eq.trans (ghX_lt (show s.2 + 2 < 13 by omega)) ?_
      unfold ghT
      rw [if_neg (by omega), if_neg (by omega), if_neg (by omega), if_pos (by omega), show s.2 + 2 - 2 = s.2 by omega]
    · rw [hVw, w2]
      simp
  have hO : ∀ V : rdVt, sxOR (sxVw (ghL T V) scr 579 H) σ P.2.2.2.2.2.1 := fun V => tuOV (V := v00) p1.2 hav p6
  -- the right head stands here
  have hlr : sxLR 579 σ ls (qMk σ ls) := ⟨fun i a ha => ⟨_, qMk_get ha, (qVal_ok hB (List.all_eq_true.mp hls _ (sxGt_mem ha))).1⟩, fun q hq => by
    obtain ⟨s, hs, rfl⟩ := List.mem_map.mp hq
    exact (qVal_ok hB (List.all_eq_true.mp hls s hs)).2⟩
  obtain ⟨i1, i2⟩ := sxIncl_ok (r := 1) (n := 579) (vw := sxVw (ghL T (0, 0, tuQN σ u)) scr 579 H) (cl := qMk σ ls) (cs := []) hB hlr (show sxSR σ [] [] from trivial) (gApp (hO _) (hU _ rfl)) (fun q hq => by cases hq) (by decide) hR
  obtain ⟨r1, r2, r3, r4, r5, r6, r7, r8⟩ := i1
  obtain ⟨V, hVw, hOk⟩ := qEx (w := tuQN σ u) (scr' := scr) (cl' := qMk σ ls) hc hchk hk hH ⟨r1, r2, r3, r4, r5, fun q hq => r6 q (List.mem_append_left _ hq), r7, r8⟩ (fun q hq => r6 q (List.mem_append_right _ hq))
  -- the start
  obtain ⟨z, z1, z2, z3⟩ : ∃ z, sxVR (σ ++ [z]) (.inr (kd, (P.1, .ofNat 0))) (qAns kd V.1) ∧ (qRng kd).1 ≤ z ∧ z ≤ (qRng kd).2 := by
    have e : ∀ z, (σ ++ [z])[P.1]? = some z := fun z => by rw [List.getElem?_append_right (by omega), hl, Nat.sub_self]; rfl
    cases kd with
    | false =>
      have h1 := Int32.le_toInt (Int32.ofInt V.1)
      have h2 := Int32.toInt_lt (Int32.ofInt V.1)
      exact ⟨_, ⟨_, rfl, _, e (Int32.ofInt V.1).toInt, by simp⟩, by simp only [qRng]; omega, by simp only [qRng]; omega⟩
    | true =>
      have h := i64_rg (Int64.ofInt V.1)
      exact ⟨_, ⟨_, rfl, _, e (Int64.ofInt V.1).toInt, by simp⟩, by simp only [qRng]; omega, by simp only [qRng]; omega⟩
  have up : sxUp σ (σ ++ [z]) := sxUp.app _ _
  have eN : (σ ++ [z])[P.1]? = some z := by rw [List.getElem?_append_right (by omega), hl, Nat.sub_self]; rfl
  have hp' : sxPtR T 579 (sxVw (ghL T V) scr 579 H) (σ ++ [z]) (tuQw kd P u) cl [] := by
    refine ⟨⟨by rw [List.length_append, hl]; rfl, up _ _ p1.2⟩, fun q hq => ?_, fun q hq => (p3 q hq).up up, p4.up up, trivial, fun q hq => ?_, (fun q hq => by cases hq), fun q hq => (p8 q hq).up up⟩
    · rcases List.mem_append.mp hq with hq | hq
      · exact (p2 q hq).up up
      · cases List.mem_singleton.mp hq
        exact ⟨z, eN, z2, z3⟩
    · rcases List.mem_append.mp hq with hq | hq
      · exact (hO V).up up q hq
      · rcases List.mem_append.mp hq with hq | hq
        · exact (hU V hVw).up up q hq
        · cases List.mem_singleton.mp hq
          exact ⟨((qPl kd : Nat) : Int), qAns kd V.1, ⟨0, up _ _ p1.2, by simp⟩, Int.natCast_nonneg _, qPl_ok, z1⟩
  exact ⟨V, z, hOk, hp'⟩
def tuQ18 (J : Nat) : sxPt := tuJ6 J [(18, .ofNat 0, .ofNat 200)] [(18, 4, .ofNat 0)] [(40, (0, .ofNat 0), (0, .ofNat 0), (18, .ofNat 0))]
def tuQ24 (J : Nat) : sxPt := (24, (tuQ18 J).2.1 ++ [(19, .ofNat 0, .ofNat 0), (20, .ofNat 0, .ofNat 0), (21, .ofNat 0, .ofNat 0), (22, .ofNat 0, .ofNat 0), (23, .ofNat 0, .ofNat 0)], (tuQ18 J).2.2.1, (tuQ18 J).2.2.2.1, [], (tuQ18 J).2.2.2.2.2.1, [], (tuQ18 J).2.2.2.2.2.2.2)
def tuDbg (J : Nat) : sxPt := tuJ6 J [(18, .ofNat 201, .ofNat 2147483647)] [] []
theorem tuQryT {kd : Bool} {t u : qTie} {c : pxCt} {ks : List sxCt} {pc nl nh nb m nd : Nat} {M : sxMo} {θ : List sxN} {ls : sxL} (hJ : J = 3 ∨ J = 11) (hlo : sxGo1 (tuJ J [] []) (some tuMe) nl (sxSt mjLaw pc (tuDlo J) 0 0) = true) (hhi : sxGo1 (tuJ J [] []) (some tuMe) nh (sxSt mjLaw pc (tuDhi J) 0 0) = true) (hbg : sxGo1 (tuJ J [] []) (some tuMe) nb (sxSt mjLaw pc (tuDbg J) 0 0) = true) (hnd : nd ≤ tuNeed)
    (hm : sxGo1 (tuJI M nd ks) (some tuMe) m (sxSt mjLaw pc (tuQw kd (tuQ24 J) u) 0 0) = true)
    (hV : ∀ (T : Nat) (V : rdVt), qOk kd t c T V → ∀ c' ∈ ks, sxCtV sxKw (ghL T V) c') (hc : ∀ (T : Nat) (V : rdVt), pxCtV sxKw (ghL T V) c) (hchk : qChk kd t c = true) (hk : t.all (fun q => Nat.blt q.2 10) = true) (hu : tuQuP (tuQ24 J) u = true)
    (hls : ls.all (fun q => qVok (tuQBP (tuQ24 J)) q.2) = true) (hR : sxIncl 1 θ (qRh t c) ls [] (tuQBP (tuQ24 J)) ((tuQ24 J).2.2.2.2.2.1 ++ qTo u) [] = true) : tuGoodJ J pc := by
  intro T scr Z d τ cl H hd hH hp hb hsl hgo hend
  obtain ⟨xs, x, i, hxs, hi, hi0, hx⟩ := tuNum hp hsl
  have hl : τ.length = 18 := hp.1.1
  have up : sxUp τ (τ ++ [x.toInt]) := sxUp.app _ _
  have e5 : (τ ++ [x.toInt])[18]? = some x.toInt := by rw [List.getElem?_append_right (by omega), hl]; rfl
  obtain ⟨f, f1, f2, f3⟩ := hp.2.1 (4, .ofNat 0, .ofNat 600) (by simp [tuPc])
  obtain ⟨a, b, g1, g2, g3⟩ := hp.2.2.1 (4, 2, .ofNat 0) (by simp [tuPc])
  dsimp only at f1 f2 f3 g1 g2 g3
  simp only [Int.ofNat_eq_natCast] at f2 f3 g3
  rw [f1] at g1
  cases Option.some.inj g1
  rw [hb] at g2
  cases Option.some.inj g2
  have hx1 := Int32.le_toInt x
  have hx2 := Int32.toInt_lt x
  have hsl6 : sxSl (τ ++ [x.toInt]) (some (1, 0)) scr := by
    obtain ⟨ys, s1, s2, y, s3, s4⟩ := hsl
    exact ⟨ys, s1, s2, y, up _ _ s3, s4⟩
  have hgo6 := tuGoOn6 (L := [x.toInt]) hl hgo
  have hO := hp.2.2.2.2.2.1
  by_cases c1 : x.toInt < 0
  · refine tuSeg6 (T := T) hJ nl hlo (fun c hc => (by cases hc)) hd hH (tuExt hp hxs hi hi0 hx hO (fun q hq => ?_) (fun q hq => (by cases hq)) (fun q hq => (by cases hq))) (show 3 < 19 by decide) (up _ _ hb) hsl6 hgo6 hend
    cases List.mem_singleton.mp hq
    exact ⟨_, e5, by simp only [Int.negSucc_eq]; omega, by simp only [Int.negSucc_eq]; omega⟩
  · by_cases c2 : f < x.toInt
    · refine tuSeg6 (T := T) hJ nh hhi (fun c hc => (by cases hc)) hd hH (tuExt hp hxs hi hi0 hx hO (fun q hq => ?_) (fun q hq => ?_) (fun q hq => (by cases hq))) (show 3 < 19 by decide) (up _ _ hb) hsl6 hgo6 hend
      · cases List.mem_singleton.mp hq
        exact ⟨_, e5, by simp only [Int.ofNat_eq_natCast]; omega, by simp only [Int.ofNat_eq_natCast]; omega⟩
      · cases List.mem_singleton.mp hq
        exact ⟨_, _, up _ _ f1, e5, by simp only [Int.negSucc_eq]; omega⟩
    · by_cases c3 : 200 < x.toInt
      · refine tuSeg6 (T := T) hJ nb hbg (fun c hc => (by cases hc)) hd hH (tuExt hp hxs hi hi0 hx hO (fun q hq => ?_) (fun q hq => (by cases hq)) (fun q hq => (by cases hq))) (show 3 < 19 by decide) (up _ _ hb) hsl6 hgo6 hend
        cases List.mem_singleton.mp hq
        exact ⟨_, e5, by simp only [Int.ofNat_eq_natCast]; omega, by simp only [Int.ofNat_eq_natCast]; omega⟩
      · obtain ⟨T1, t1, t2, t3⟩ := txCutU (T := T) (n := x.toInt.toNat) (by omega)
        have q5 := tuG1 (g := 5) hp.1.2 hO (tuHas (by rcases hJ with rfl | rfl <;> decide +kernel))
        have q6 := tuG1 (g := 6) hp.1.2 hO (tuHas (by rcases hJ with rfl | rfl <;> decide +kernel))
        have h5 : ghP5 T H := (ghB_iff (p := ghP5 T H) q5.choose_spec).1
        have h6 : ghP6 T H := (ghB_iff (p := ghP6 T H) q6.choose_spec).1
        have h51 : ghP5 T1 H := ghP5_cut (by omega) (fun k hk => t2 k (by omega)) h5
        have h61 : ghP6 T1 H := ghP6_cut (by omega) (fun k hk => t2 k (by omega)) h6
        have hO1 := tuOU hp.1.2 hO t3 h51 h61 (by rcases hJ with rfl | rfl <;> decide +kernel)
        have hD : ∀ q ∈ ([(18, .ofNat 0, .ofNat 200)] : sxD), sxIn (τ ++ [x.toInt]) q := fun q hq => by
          cases List.mem_singleton.mp hq
          exact ⟨_, e5, by simp only [Int.ofNat_eq_natCast]; omega, by simp only [Int.ofNat_eq_natCast]; omega⟩
        have hE : ∀ q ∈ ([(18, 4, .ofNat 0)] : sxE), sxDf (τ ++ [x.toInt]) q := fun q hq => by
          cases List.mem_singleton.mp hq
          exact ⟨_, _, e5, up _ _ f1, by simp only [Int.ofNat_eq_natCast]; omega⟩
        have hF : ∀ q ∈ ([(40, (0, .ofNat 0), (0, .ofNat 0), (18, .ofNat 0))] : sxF), sxFt T1 (τ ++ [x.toInt]) q := fun q hq => by
          cases List.mem_singleton.mp hq
          exact ⟨0, 0, x.toInt, ⟨0, up _ _ hp.1.2, rfl⟩, ⟨0, up _ _ hp.1.2, rfl⟩, ⟨x.toInt, e5, by simp⟩, by show (tLn T1 : Int) = x.toInt; omega⟩
        have hX : sxPtR T1 579 (sxVw (ghL T1 v00) scr 579 H) (τ ++ [x.toInt]) (tuQ18 J) cl [] := tuExt (J := J) hp hxs hi hi0 hx hO1 hD hE hF
        have up5 : sxUp (τ ++ [x.toInt]) (τ ++ [x.toInt] ++ [0, 0, 0, 0, 0]) := sxUp.app _ _
        have hY : sxPtR T1 579 (sxVw (ghL T1 v00) scr 579 H) (τ ++ [x.toInt] ++ [0, 0, 0, 0, 0]) (tuQ24 J) cl [] := by
          obtain ⟨p1, p2, p3, p4, p5, p6, p7, p8⟩ := hX
          have hl19 : (τ ++ [x.toInt]).length = 19 := p1.1
          refine ⟨⟨by rw [List.length_append, hl19]; rfl, up5 _ _ p1.2⟩, fun q hq => ?_, fun q hq => (p3 q hq).up up5, p4.up up5, trivial, sxOR.up up5 p6, (fun q hq => by cases hq), fun q hq => (p8 q hq).up up5⟩
          have hq : q ∈ (tuQ18 J).2.1 ++ [(19, .ofNat 0, .ofNat 0), (20, .ofNat 0, .ofNat 0), (21, .ofNat 0, .ofNat 0), (22, .ofNat 0, .ofNat 0), (23, .ofNat 0, .ofNat 0)] := hq
          rcases List.mem_append.mp hq with hq | hq
          · exact (p2 q hq).up up5
          · simp only [List.mem_cons, List.not_mem_nil, or_false] at hq
            rcases hq with rfl | rfl | rfl | rfl | rfl
            · exact ⟨0, by rw [List.getElem?_append_right (by omega), hl19]; rfl, by decide, by decide⟩
            · exact ⟨0, by rw [List.getElem?_append_right (by omega), hl19]; rfl, by decide, by decide⟩
            · exact ⟨0, by rw [List.getElem?_append_right (by omega), hl19]; rfl, by decide, by decide⟩
            · exact ⟨0, by rw [List.getElem?_append_right (by omega), hl19]; rfl, by decide, by decide⟩
            · exact ⟨0, by rw [List.getElem?_append_right (by omega), hl19]; rfl, by decide, by decide⟩
        obtain ⟨V, z, hOk, hp'⟩ := tuQex (kd := kd) (t := t) (u := u) (c := c) (θ := θ) (ls := ls) (P := tuQ24 J) (fun V => hc T1 V) hchk hk hu (by rcases hJ with rfl | rfl <;> decide +kernel) (by rcases hJ with rfl | rfl <;> rfl) hls hR hH hY
        have up6 : sxUp (τ ++ [x.toInt] ++ [0, 0, 0, 0, 0]) (τ ++ [x.toInt] ++ [0, 0, 0, 0, 0] ++ [z]) := sxUp.app _ _
        refine tuIn (T := T1) (V := V) (x := x.toInt) m hm (hV T1 V hOk) (Nat.le_trans hnd hd) hH hp' rfl (up6 _ _ (up5 _ _ e5)) (by omega) ?_ ?_
        · obtain ⟨ys, s1, s2, y, s3, s4⟩ := hsl6
          exact ⟨ys, s1, s2, y, up6 _ _ (up5 _ _ s3), s4⟩
        · rw [List.append_assoc, List.append_assoc]
          exact tuGoOn6 hl hgo
end TUQT
