/-! a query's turn from any start, given its pair -/
noncomputable section TUQW
variable {J T : Nat} {V : rdVt} {scr : Option (List Int32)} {Z : mjO → Prop} {d : Nat} {H : mjH} {τ : List Int} {cl : mjL} {cs : List Value}
/-- the start with what the pair is tied to, and with the answer -/
def tuQw (kd : Bool) (P : sxPt) (u : qTie) : sxPt := (P.1 + 1, P.2.1 ++ [(P.1, (qRng kd).1, (qRng kd).2)], P.2.2.1, P.2.2.2.1, [], P.2.2.2.2.2.1 ++ (qTo u ++ [(579, (0, .ofNat (qPl kd)), .inr (kd, (P.1, .ofNat 0)))]), [], P.2.2.2.2.2.2.2)
def tuQBP (P : sxPt) : sxB := (P.1, P.2.1, P.2.2.1, [], [])
def tuQuP (P : sxPt) (u : qTie) : Bool := u.all (fun q => (Nat.blt q.2 10 && (match u.find? (fun s => Nat.beq s.2 q.2) with | some s => Nat.beq s.1 q.1 | none => false)) && match sxRg (tuQBP P) (q.1, 0) with | some r => iLe (-2147483648) r.1 && iLe r.2 2147483647 | none => false)
def tuQN (σ : List Int) (u : qTie) (k : Nat) : Int := match u.find? (fun s => Nat.beq s.2 k) with | some s => σ.getD s.1 0 | none => 0
theorem tuQryP {sp : List (Nat × Nat × Nat)} {kd : Bool} {t u : qTie} {c : pxCt} {ks : List sxCt} {pc m : Nat} {θ : List sxN} {P Q : sxPt} {ls : sxL} (hJ : J = 3 ∨ J = 11) (hQ : Q = tuQw kd P u) (hm : sxGo1 (tuJ J sp ks) (some tuMe) m (sxSt mjLaw pc Q 0 0) = true)
    (hV : ∀ (T : Nat) (V : rdVt), qOk kd t c T V → ∀ c' ∈ ks, sxCtV sxKw (ghL T V) c') (hc : ∀ (T : Nat) (V : rdVt), pxCtV sxKw (ghL T V) c) (hchk : qChk kd t c = true) (hk : t.all (fun q => Nat.blt q.2 10) = true) (hu : tuQuP P u = true)
    (hav : P.2.2.2.2.2.1.all (fun q => match Nat.beq q.1 579 with | false => true | true => match Nat.beq q.2.1.1 0 with | true => (match iLe q.2.1.2 6 with | true => true | false => iLe 20 q.2.1.2) | false => false) = true)
    (hst : (match P.2.2.2.2.1, P.2.2.2.2.2.2.1 with | [], [] => Nat.blt 3 P.1 | _, _ => false) = true) (hls : ls.all (fun q => qVok (tuQBP P) q.2) = true) (hR : sxIncl 1 θ (qRh t c) ls [] (tuQBP P) (P.2.2.2.2.2.1 ++ qTo u) [] = true) : tuGoP J pc P := by
  intro T scr Z d σ cl H hd hH hp hb hsl hgo hend
  subst hQ
  obtain ⟨p1, p2, p3, p4, p5, p6, p7, p8⟩ := hp
  have hst2 : P.2.2.2.2.1 = [] ∧ P.2.2.2.2.2.2.1 = [] ∧ 3 < P.1 := by
    split at hst
    · rename_i e1 e2
      exact ⟨e1, e2, bltOk hst⟩
    · cases hst
  obtain ⟨s1, s2, s3⟩ := hst2
  have hl : σ.length = P.1 := p1.1
  have hB : sxBR T σ (tuQBP P) := ⟨⟨hl, p1.2⟩, p2, p3, (fun q hq => by cases hq), fun q hq => by cases hq⟩
  -- the numbers
  have hw : ∀ q ∈ u, σ[q.1]? = some (tuQN σ u q.2) ∧ (Int32.ofInt (tuQN σ u q.2)).toInt = tuQN σ u q.2 ∧ q.2 < 10 := by
    intro q hq
    have h := List.all_eq_true.mp hu q hq
    rw [Bool.and_eq_true, Bool.and_eq_true] at h
    obtain ⟨⟨h1, h2⟩, h3⟩ := h
    have en : tuQN σ u q.2 = σ.getD q.1 0 := by
      unfold tuQN
      split at h2
      · rename_i s hs
        try rw [hs]
        try dsimp only
        rw [Nat.eq_of_beq_eq_true h2]
      · cases h2
    split at h3
    · rename_i r hr
      rw [Bool.and_eq_true] at h3
      obtain ⟨z, hz⟩ := sxRg_ex hB hr
      have h4 := sxRg_ok hB hr hz
      have h5 := iLe_ok h3.1
      have h6 := iLe_ok h3.2
      obtain ⟨y, y1, y2⟩ := hz
      dsimp only at y1 y2
      have e : σ.getD q.1 0 = y := by rw [List.getD_eq_getElem?_getD, y1]; rfl
      rw [en, e]
      exact ⟨y1, i32_of (by omega) (by omega), bltOk h1⟩
    · cases h3
  have hU : ∀ V : rdVt, V.2.2 = tuQN σ u → sxOR (sxVw (ghL T V) scr 579 H) σ (qTo u) := by
    intro V hVw q hq
    obtain ⟨s, hs, rfl⟩ := List.mem_map.mp hq
    obtain ⟨w1, w2, w3⟩ := hw s hs
    refine ⟨((9 + s.2 : Nat) : Int), .int (Int32.ofInt (V.2.2 s.2)), ⟨0, p1.2, by simp⟩, Int.natCast_nonneg _, ?_, _, rfl, _, w1, ?_⟩
    · show sxVw (ghL T V) scr 579 H 579 (9 + s.2) = _
      rw [gvG, show 9 + s.2 = (s.2 + 2) + 7 by omega]
      refine Eq.trans (ghX_lt (show s.2 + 2 < 13 by omega)) ?_
      unfold ghT
      rw [if_neg (by omega), if_neg (by omega), if_neg (by omega), if_pos (by omega), show s.2 + 2 - 2 = s.2 by omega]
    · rw [hVw, w2]
      simp
  have hO : ∀ V : rdVt, sxOR (sxVw (ghL T V) scr 579 H) σ P.2.2.2.2.2.1 := fun V => tuOV (V := v00) p1.2 hav p6
  -- the right head stands here
  have hlr : sxLR 579 σ ls (qMk σ ls) := ⟨fun i a ha => ⟨_, qMk_get ha, (qVal_ok hB (List.all_eq_true.mp hls _ (sxGt_mem ha))).1⟩, fun q hq => by
    obtain ⟨s, hs, rfl⟩ := List.mem_map.mp hq
    exact (qVal_ok hB (List.all_eq_true.mp hls s hs)).2⟩
  obtain ⟨i1, i2⟩ := sxIncl_ok (r := 1) (n := 579) (vw := sxVw (ghL T (0, 0, tuQN σ u)) scr 579 H) (cl := qMk σ ls) (cs := []) hB hlr (show sxSR σ [] [] from trivial) (gApp (hO _) (hU _ rfl)) (fun q hq => by cases hq) (by decide) hR
  obtain ⟨r1, r2, r3, r4, r5, r6, r7, r8⟩ := i1
  obtain ⟨V, hVw, hOk⟩ := qEx (w := tuQN σ u) (scr' := scr) (cl' := qMk σ ls) (hc T) hchk hk hH ⟨r1, r2, r3, r4, r5, fun q hq => r6 q (List.mem_append_left _ hq), r7, r8⟩ (fun q hq => r6 q (List.mem_append_right _ hq))
  -- the start
  obtain ⟨z, z1, z2, z3⟩ : ∃ z, sxVR (σ ++ [z]) (.inr (kd, (P.1, .ofNat 0))) (qAns kd V.1) ∧ (qRng kd).1 ≤ z ∧ z ≤ (qRng kd).2 := by
    have e : ∀ z, (σ ++ [z])[P.1]? = some z := fun z => by rw [List.getElem?_append_right (by omega), hl, Nat.sub_self]; rfl
    cases kd with
    | false =>
      have h1 := Int32.le_toInt (Int32.ofInt V.1)
      have h2 := Int32.toInt_lt (Int32.ofInt V.1)
      exact ⟨_, ⟨_, rfl, _, e (Int32.ofInt V.1).toInt, by simp⟩, by simp only [qRng]; omega, by simp only [qRng]; omega⟩
    | true =>
      have h := i64_rg (Int64.ofInt V.1)
      exact ⟨_, ⟨_, rfl, _, e (Int64.ofInt V.1).toInt, by simp⟩, by simp only [qRng]; omega, by simp only [qRng]; omega⟩
  have up : sxUp σ (σ ++ [z]) := sxUp.app _ _
  have eN : (σ ++ [z])[P.1]? = some z := by rw [List.getElem?_append_right (by omega), hl, Nat.sub_self]; rfl
  have hp' : sxPtR T 579 (sxVw (ghL T V) scr 579 H) (σ ++ [z]) (tuQw kd P u) cl [] := by
    refine ⟨⟨by rw [List.length_append, hl]; rfl, up _ _ p1.2⟩, fun q hq => ?_, fun q hq => (p3 q hq).up up, p4.up up, trivial, fun q hq => ?_, (fun q hq => by cases hq), fun q hq => (p8 q hq).up up⟩
    · rcases List.mem_append.mp hq with hq | hq
      · exact (p2 q hq).up up
      · cases List.mem_singleton.mp hq
        exact ⟨z, eN, z2, z3⟩
    · rcases List.mem_append.mp hq with hq | hq
      · exact (hO V).up up q hq
      · rcases List.mem_append.mp hq with hq | hq
        · exact (hU V hVw).up up q hq
        · cases List.mem_singleton.mp hq
          exact ⟨((qPl kd : Nat) : Int), qAns kd V.1, ⟨0, up _ _ p1.2, by simp⟩, Int.natCast_nonneg _, qPl_ok, z1⟩
  refine tuSegV (T := T) (V := V) hJ m hm (hV T V hOk) hd hH hp' (show 3 < P.1 + 1 by omega) (up _ _ hb) ?_ ?_ hend
  · obtain ⟨xs, s1, s2, y, s3, s4⟩ := hsl
    exact ⟨xs, s1, s2, y, up _ _ s3, s4⟩
  · intro J2 T2 τ' cl' cs' H' C S hJ2 g1 g2 g3 g4 g5 g6 g7
    have e : ∀ i, i < 4 → (σ ++ [z])[i]? = σ[i]? := fun i hi => List.getElem?_append_left (by omega)
    refine hgo J2 T2 τ' cl' cs' H' C S hJ2 (g1.trans (e 1 (by decide))) g2 g3 g4 g5 g6 ?_
    have k : sxMv (σ ++ [z]) (1, 3, 0) = sxMv σ (1, 3, 0) := by
      unfold sxMv
      dsimp only
      rw [List.getD_eq_getElem?_getD, List.getD_eq_getElem?_getD, e 1 (by decide), e 3 (by decide), ← List.getD_eq_getElem?_getD, ← List.getD_eq_getElem?_getD]
    rw [← k]
    exact g7
end TUQW
