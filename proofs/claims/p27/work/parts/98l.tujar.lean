/-! jar's turn, given its jobs -/
section TUJAR3
variable {T : Nat} {V : rdVt} {scr : Option (List Int32)} {Z : mjO → Prop} {d : Nat} {H H' : mjH} {τ : List Int} {cl cl' : mjL} {cs : List Value}
theorem rdEx2 {cs : List (pxCt × Nat)} {k n C S : Nat} {M : sxMo} {x y : Int32} (hcs : ∀ (T : Nat), ∀ q ∈ cs, pxCtV sxKw (ghL T v00) q.1 ∧ rdChk q.2 q.1 = true ∧ rdCov k n M C S q.1 = true) (hK : ∀ q ∈ cs, (Nat.blt q.2 579 && rdKB q.2 2 0 12) = true) (hH' : sxHR sxKw H') (hR : rdR T H' cl' x y) : ∃ T' V, T' % tPw 600 = T % tPw 600 ∧ (V.1 < 0 → T' = T) ∧ rdOk cs T' V ∧ ((-9 ≤ V.1 ∧ V.1 ≤ -6) ∨ (0 ≤ V.1 ∧ V.1 ≤ 12)) := by
  obtain ⟨T', V, hT, hn, hV⟩ := rdEx hcs hK hH' hR
  by_cases hf : V.2.1 = 1
  · refine ⟨T', V, hT, hn, hV, ?_⟩
    obtain ⟨q, hq, o, scr0, d0, τ0, cl0, H0, g1, g2, g3, g4⟩ := hV.2.1.mpr hf
    obtain ⟨hc, hchk, hcov⟩ := hcs T' q hq
    have hR' : rdR T' H' cl' x y := ⟨hR.1, by rw [tLn_mod hT]; exact hR.2.1, ghP6_mod hT hR.2.2⟩
    have hm := rdMeet (V := v00) (scr' := none) (d' := q.1.2.1.2) hc hchk g1 (Nat.le_refl _) g2 hH' g3 hR'
    obtain ⟨r, hr1, hr2⟩ := mjRn_some (mjRn_and hm g4)
    subst hr2
    obtain ⟨b, ⟨pp, hp, τ', ⟨cv, Ha, C1, S1, er, k2, -⟩, -⟩, -⟩ := mjRn_some hr1
    have hv := (hV.1 q hq r ⟨scr0, d0, τ0, cl0, H0, g1, g2, g3, g4⟩).1
    subst er
    rcases hv with ⟨f0, fz⟩ | ⟨⟨f1, f2⟩, fz⟩
    · have := rdKR k2 (hK q hq)
      have fz : V.1 = ghV Ha q.2 2 := fz
      exact Or.inr (by omega)
    · exact Or.inl (by omega)
  · refine ⟨T', v00, hT, fun h => absurd h (by decide), ⟨fun q hq o ho => absurd (hV.2.1.mp ⟨q, hq, o, ho⟩) hf, ⟨fun h => absurd (hV.2.1.mp h) hf, fun h => absurd h (by decide)⟩, Or.inl rfl, ⟨by decide, by decide⟩, fun k => ⟨show -2147483648 ≤ (0 : Int) by decide, show (0 : Int) < 2147483648 by decide⟩⟩, Or.inr ⟨by decide, by decide⟩⟩
theorem tuGoOn6 {L : List Int} (hl : τ.length = 18) (h : tuGoOn scr Z d τ) : tuGoOn scr Z d (τ ++ L) := by
  intro J T τ' cl' cs' H' C S hJ g1 g2 g3 g4 g5 g6 g7
  have e : ∀ i, i < 5 → (τ ++ L)[i]? = τ[i]? := fun i hi => List.getElem?_append_left (by omega)
  refine h J T τ' cl' cs' H' C S hJ (g1.trans (e 1 (by decide))) g2 g3 g4 g5 g6 ?_
  have k : sxMv (τ ++ L) (1, 3, 0) = sxMv τ (1, 3, 0) := by
    unfold sxMv
    dsimp only
    rw [List.getD_eq_getElem?_getD, List.getD_eq_getElem?_getD, e 1 (by decide), e 3 (by decide), ← List.getD_eq_getElem?_getD, ← List.getD_eq_getElem?_getD]
  rw [← k]
  exact g7
def tuDin (J : Nat) : sxPt := tuJ7 (tuJ6 J [(18, .ofNat 0, .ofNat 600)] [(18, 4, .ofNat 0)] [(40, (0, .ofNat 0), (0, .ofNat 0), (18, .ofNat 0))])
noncomputable def tuDiq (J : Nat) : sxPt := tuJ7 (tuJ8 (tuPq J) [(18, .ofNat 0, .ofNat 600)] [(18, 4, .ofNat 0)] [(40, (0, .ofNat 0), (0, .ofNat 0), (18, .ofNat 0))])
noncomputable def tuDiv (J : Nat) (v : Int) : sxPt := match iLe 0 v with | true => tuDiq J | false => tuDin J
def tuDlo (J : Nat) : sxPt := tuJ6 J [(18, .negSucc 2147483647, .negSucc 0)] [] []
def tuDhi (J : Nat) : sxPt := tuJ6 J [(18, .ofNat 1, .ofNat 2147483647)] [(4, 18, .negSucc 0)] []
theorem tuJarJ {J : Nat} (hJ : J = 3 ∨ J = 11) {rc : List (pxCt × Nat)} {k n C S nl nh nd : Nat} {M M2 : sxMo} (hlo : sxGo1 (tuJ J [] []) (some tuMe) nl (sxSt mjLaw 361 (tuDlo J) 0 0) = true) (hhi : sxGo1 (tuJ J [] []) (some tuMe) nh (sxSt mjLaw 361 (tuDhi J) 0 0) = true) (hnd : nd ≤ tuNeed)
    (hin : ∀ v : Int, ((-9 ≤ v ∧ v ≤ -6) ∨ (0 ≤ v ∧ v ≤ 12)) → ∃ (cs : List sxCt) (m : Nat), sxGo1 (tuJI M2 nd cs) (some tuMe) m (sxSt mjLaw 361 (tuDiv J v) 0 0) = true ∧ ∀ (T : Nat) (V : rdVt), rdOk rc T V → V.1 = v → ∀ c ∈ cs, sxCtV sxKw (ghL T V) c)
    (hcs : ∀ (T : Nat), ∀ q ∈ rc, pxCtV sxKw (ghL T v00) q.1 ∧ rdChk q.2 q.1 = true ∧ rdCov k n M C S q.1 = true) (hK : ∀ q ∈ rc, (Nat.blt q.2 579 && rdKB q.2 2 0 12) = true) : tuGoodJ J 361 := by
  intro T scr Z d τ cl H hd hH hp hb hsl hgo hend
  obtain ⟨xs, x, i, hxs, hi, hi0, hx⟩ := tuNum hp hsl
  have hl : τ.length = 18 := hp.1.1
  have up : sxUp τ (τ ++ [x.toInt]) := sxUp.app _ _
  have e5 : (τ ++ [x.toInt])[18]? = some x.toInt := by rw [List.getElem?_append_right (by omega), hl]; rfl
  obtain ⟨f, f1, f2, f3⟩ := hp.2.1 (4, .ofNat 0, .ofNat 600) (by simp [tuPc])
  obtain ⟨a, b, g1, g2, g3⟩ := hp.2.2.1 (4, 2, .ofNat 0) (by simp [tuPc])
  dsimp only at f1 f2 f3 g1 g2 g3
  simp only [Int.ofNat_eq_natCast] at f2 f3 g3
  rw [f1] at g1
  cases Option.some.inj g1
  rw [hb] at g2
  cases Option.some.inj g2
  have hx1 := Int32.le_toInt x
  have hx2 := Int32.toInt_lt x
  have hsl6 : sxSl (τ ++ [x.toInt]) (some (1, 0)) scr := by
    obtain ⟨ys, s1, s2, y, s3, s4⟩ := hsl
    exact ⟨ys, s1, s2, y, up _ _ s3, s4⟩
  have hgo6 := tuGoOn6 (L := [x.toInt]) hl hgo
  have hO := hp.2.2.2.2.2.1
  have i32 : -2147483648 ≤ x.toInt ∧ x.toInt < 2147483648 := ⟨by have := hx1; omega, by have := hx2; omega⟩
  by_cases c1 : x.toInt < 0
  · refine tuSeg6 (T := T) hJ nl hlo (fun c hc => (by cases hc)) hd hH (tuExt hp hxs hi hi0 hx hO (fun q hq => ?_) (fun q hq => (by cases hq)) (fun q hq => (by cases hq))) (show 3 < 19 by decide) (up _ _ hb) hsl6 hgo6 hend
    cases List.mem_singleton.mp hq
    exact ⟨_, e5, by simp only [Int.negSucc_eq]; omega, by simp only [Int.negSucc_eq]; omega⟩
  · by_cases c2 : f < x.toInt
    · refine tuSeg6 (T := T) hJ nh hhi (fun c hc => (by cases hc)) hd hH (tuExt hp hxs hi hi0 hx hO (fun q hq => ?_) (fun q hq => ?_) (fun q hq => (by cases hq))) (show 3 < 19 by decide) (up _ _ hb) hsl6 hgo6 hend
      · cases List.mem_singleton.mp hq
        exact ⟨_, e5, by simp only [Int.ofNat_eq_natCast]; omega, by simp only [Int.ofNat_eq_natCast]; omega⟩
      · cases List.mem_singleton.mp hq
        exact ⟨_, _, up _ _ f1, e5, by simp only [Int.negSucc_eq]; omega⟩
    · obtain ⟨T1, t1, t2, t3⟩ := txCutU (T := T) (n := x.toInt.toNat) (by omega)
      have q5 := tuG1 (g := 5) hp.1.2 hO (tuHas (by rcases hJ with rfl | rfl <;> decide +kernel))
      have q6 := tuG1 (g := 6) hp.1.2 hO (tuHas (by rcases hJ with rfl | rfl <;> decide +kernel))
      have h5 : ghP5 T H := (ghB_iff (p := ghP5 T H) q5.choose_spec).1
      have h6 : ghP6 T H := (ghB_iff (p := ghP6 T H) q6.choose_spec).1
      have h51 : ghP5 T1 H := ghP5_cut (by omega) (fun k hk => t2 k (by omega)) h5
      have h61 : ghP6 T1 H := ghP6_cut (by omega) (fun k hk => t2 k (by omega)) h6
      have hO1 := tuOU hp.1.2 hO t3 h51 h61 (by rcases hJ with rfl | rfl <;> decide +kernel)
      -- the tape
      obtain ⟨zt, vt, ⟨y0, y1, y2⟩, z2, z3, yt, rfl, ⟨u, u1, u2⟩⟩ := hO (78, (0, .ofNat 1), .inr (false, (4, .ofNat 0))) (by simp [tuPc])
      dsimp only at y1 y2 z3 u1 u2
      rw [hp.1.2] at y1
      cases Option.some.inj y1
      rw [f1] at u1
      cases Option.some.inj u1
      simp only [Int.ofNat_eq_natCast] at y2 u2
      rw [show zt.toNat = 1 by omega, gvE (by decide)] at z3
      have hR : rdR T1 H [(1, .int x), (0, .ref 78)] x yt := ⟨⟨rfl, rfl, fun q hq => by
        rcases List.mem_cons.mp hq with rfl | hq
        · rfl
        · cases List.mem_singleton.mp hq
          decide⟩, ⟨by omega, z3, by omega, by omega⟩, h61⟩
      obtain ⟨T2, V, hT2, hneg, hV, hr⟩ := rdEx2 hcs hK hH hR
      obtain ⟨cs, m, hm, hc⟩ := hin V.1 hr
      have hOV : ∀ {O : sxO}, O.all (fun q => match Nat.beq q.1 579 with | false => true | true => match Nat.beq q.2.1.1 0 with | true => (match iLe q.2.1.2 6 with | true => true | false => iLe 20 q.2.1.2) | false => false) = true → sxOR (sxVw (ghL T2 v00) scr 579 H) τ O → sxOR (sxVw (ghL T2 V) scr 579 H) τ O := by
        intro O hall hO2 q hq
        obtain ⟨z, v, a1, a2, a3, a4⟩ := hO2 q hq
        refine ⟨z, v, a1, a2, ?_, a4⟩
        rw [rdVw (V' := v00)]
        · exact a3
        · rintro ⟨w1, w2⟩
          have hb := List.all_eq_true.mp hall q hq
          rw [w1] at hb
          dsimp only at hb
          split at hb
          · rename_i w3
            obtain ⟨y, y1, y2⟩ := a1
            rw [Nat.eq_of_beq_eq_true w3, hp.1.2] at y1
            cases Option.some.inj y1
            split at hb
            · rename_i w4
              have := iLe_ok w4
              omega
            · have := iLe_ok hb
              omega
          · cases hb
      have hln := tLn_mod hT2
      have hD : ∀ q ∈ ([(18, .ofNat 0, .ofNat 600)] : sxD), sxIn (τ ++ [x.toInt]) q := fun q hq => by
        cases List.mem_singleton.mp hq
        exact ⟨_, e5, by simp only [Int.ofNat_eq_natCast]; omega, by simp only [Int.ofNat_eq_natCast]; omega⟩
      have hE : ∀ q ∈ ([(18, 4, .ofNat 0)] : sxE), sxDf (τ ++ [x.toInt]) q := fun q hq => by
        cases List.mem_singleton.mp hq
        exact ⟨_, _, e5, up _ _ f1, by simp only [Int.ofNat_eq_natCast]; omega⟩
      have hF : ∀ q ∈ ([(40, (0, .ofNat 0), (0, .ofNat 0), (18, .ofNat 0))] : sxF), sxFt T2 (τ ++ [x.toInt]) q := fun q hq => by
        cases List.mem_singleton.mp hq
        exact ⟨0, 0, x.toInt, ⟨0, up _ _ hp.1.2, rfl⟩, ⟨0, up _ _ hp.1.2, rfl⟩, ⟨x.toInt, e5, by simp⟩, by show (tLn T2 : Int) = x.toInt; omega⟩
      have up2 : sxUp (τ ++ [x.toInt]) (τ ++ [x.toInt] ++ [V.2.2 0, V.2.2 2, V.2.2 3, V.2.2 4, V.2.2 5, V.2.2 6]) := sxUp.app _ _
      have hsl7 : sxSl (τ ++ [x.toInt] ++ [V.2.2 0, V.2.2 2, V.2.2 3, V.2.2 4, V.2.2 5, V.2.2 6]) (some (1, 0)) scr := by
        obtain ⟨ys, s1, s2, y, s3, s4⟩ := hsl6
        exact ⟨ys, s1, s2, y, up2 _ _ s3, s4⟩
      have hgo7 : tuGoOn scr Z d (τ ++ [x.toInt] ++ [V.2.2 0, V.2.2 2, V.2.2 3, V.2.2 4, V.2.2 5, V.2.2 6]) := by
        rw [List.append_assoc]
        exact tuGoOn6 hl hgo
      by_cases hv : 0 ≤ V.1
      · have e0 : tuDiv J V.1 = tuDiq J := by
          unfold tuDiv
          rw [iLe_iff.mpr hv]
        rw [e0] at hm
        have hOq : sxOR (sxVw (ghL T2 v00) scr 579 H) τ (tuPq J).2.2.2.2.2.1 := tuO (T := T) hp.1.2 (fun q hq => hO q (List.mem_filter.mp hq).1) (ghP5_mod hT2 h51) (ghP6_mod hT2 h61) (by rcases hJ with rfl | rfl <;> decide +kernel)
        have hpq : sxPtR T 579 (sxVw (ghL T v00) scr 579 H) τ (tuPq J) cl [] := ⟨hp.1, hp.2.1, hp.2.2.1, hp.2.2.2.1, hp.2.2.2.2.1, fun q hq => hO q (List.mem_filter.mp hq).1, (fun q hq => by cases hq), (fun q hq => by cases hq)⟩
        have hX := tuExt8 (P := tuPq J) hpq hxs hi hi0 hx (hOV (by rcases hJ with rfl | rfl <;> decide +kernel) hOq) (by rcases hJ with rfl | rfl <;> rfl) hD hE hF
        exact tuIn (T := T2) (V := V) (x := x.toInt) m hm (hc T2 V hV rfl) (Nat.le_trans hnd hd) hH (tuExtG hX (by rcases hJ with rfl | rfl <;> rfl) rfl hV.2.2.2.2) rfl (up2 _ _ e5) (by omega) hsl7 hgo7
      · have e0 : tuDiv J V.1 = tuDin J := by
          unfold tuDiv
          cases e : iLe 0 V.1 with
          | true => exact absurd (iLe_ok e) hv
          | false => rfl
        rw [e0] at hm
        obtain rfl : T2 = T1 := hneg (by omega)
        have hX := tuExt (J := J) hp hxs hi hi0 hx (hOV (by rcases hJ with rfl | rfl <;> decide +kernel) hO1) hD hE hF
        exact tuIn (T := T2) (V := V) (x := x.toInt) m hm (hc T2 V hV rfl) (Nat.le_trans hnd hd) hH (tuExtG hX rfl rfl hV.2.2.2.2) rfl (up2 _ _ e5) (by omega) hsl7 hgo7
end TUJAR3
