/-! feed's turn, whole -/
section TUFEED2
variable {T : Nat} {V : rdVt} {scr : Option (List Int32)} {H : mjH} {τ : List Int} {cl : mjL} {cs : List Value}
/-- a pattern's places where places 5 and 6 are told anew -/
theorem tuO {T T' : Nat} {σ : List Int} {O : sxO} (h0 : σ[0]? = some 0) (h : sxOR (sxVw (ghL T v00) scr 579 H) σ O) (h5 : ghP5 T' H) (h6 : ghP6 T' H)
    (hc : O.all (fun q => match Nat.beq q.1 579 with | false => (match Nat.beq q.1 580 with | true => false | false => true) | true => (match Nat.beq q.2.1.1 0 with | true => (match iLe q.2.1.2 4 with | true => true | false => (match (match iEq q.2.1.2 5 with | true => true | false => iEq q.2.1.2 6) with | true => (match q.2.2 with | .inr (false, m) => fdN m (0, 1) | _ => false) | false => false)) | false => false)) = true) :
    sxOR (sxVw (ghL T' v00) scr 579 H) σ O := by
  intro q hq
  have hb := List.all_eq_true.mp hc q hq
  obtain ⟨z, v, a1, a2, a3, a4⟩ := h q hq
  by_cases e : q.1 = 579
  · rw [e] at hb a3
    dsimp only at hb
    split at hb
    · rename_i e1
      obtain ⟨y, y1, y2⟩ := a1
      have y1' := y1
      rw [Nat.eq_of_beq_eq_true e1, h0] at y1'
      cases Option.some.inj y1'
      split at hb
      · rename_i e2
        have e2 := iLe_ok e2
        refine ⟨z, v, ⟨0, y1, y2⟩, a2, ?_, a4⟩
        rw [e, ← rdVwT (T := T) (V := v00)]
        · exact a3
        · rintro ⟨-, g⟩
          omega
        · decide
      · split at hb
        · rename_i e3
          split at hb
          · rename_i m hm
            rw [hm, fdN_ok hb]
            have hz : z = 5 ∨ z = 6 := by
              split at e3
              · rename_i e4
                have := iEq_ok e4
                omega
              · have := iEq_ok e3
                omega
            rcases hz with rfl | rfl
            · exact ⟨5, .int 1, ⟨0, y1, y2⟩, a2, by rw [e]; exact gvG.trans (ghB_of h5), 1, rfl, 0, h0, rfl⟩
            · exact ⟨6, .int 1, ⟨0, y1, y2⟩, a2, by rw [e]; exact gvG.trans (ghB_of h6), 1, rfl, 0, h0, rfl⟩
          · cases hb
        · cases hb
    · cases hb
  · refine ⟨z, v, a1, a2, ?_, a4⟩
    rw [← rdVwT (T := T) (V := v00)]
    · exact a3
    · rintro ⟨g, -⟩
      exact e g
    · intro g
      rw [g] at hb
      exact absurd (show false = true from hb) (by decide)
/-- a pattern's places where places 5 and 6 are told anew -/
theorem tuOU {T T' : Nat} {σ : List Int} {O : sxO} (h0 : σ[0]? = some 0) (h : sxOR (sxVw (ghL T v00) scr 579 H) σ O) (hU : T / tPw 600 = T' / tPw 600) (h5 : ghP5 T' H) (h6 : ghP6 T' H)
    (hc : O.all (fun q => match Nat.beq q.1 579 with | false => (match Nat.beq q.1 580 with | true => false | false => true) | true => (match Nat.beq q.2.1.1 0 with | true => (match iLe q.2.1.2 4 with | true => true | false => (match (match iEq q.2.1.2 5 with | true => true | false => iEq q.2.1.2 6) with | true => (match q.2.2 with | .inr (false, m) => fdN m (0, 1) | _ => false) | false => (match iLe 20 q.2.1.2 with | true => iLe q.2.1.2 46 | false => false))) | false => false)) = true) :
    sxOR (sxVw (ghL T' v00) scr 579 H) σ O := by
  intro q hq
  have hb := List.all_eq_true.mp hc q hq
  obtain ⟨z, v, a1, a2, a3, a4⟩ := h q hq
  by_cases e : q.1 = 579
  · rw [e] at hb a3
    dsimp only at hb
    split at hb
    · rename_i e1
      obtain ⟨y, y1, y2⟩ := a1
      have y1' := y1
      rw [Nat.eq_of_beq_eq_true e1, h0] at y1'
      cases Option.some.inj y1'
      split at hb
      · rename_i e2
        have e2 := iLe_ok e2
        refine ⟨z, v, ⟨0, y1, y2⟩, a2, ?_, a4⟩
        rw [e, ← rdVwT (T := T) (V := v00)]
        · exact a3
        · rintro ⟨-, g⟩
          omega
        · decide
      · split at hb
        · rename_i e3
          split at hb
          · rename_i m hm
            rw [hm, fdN_ok hb]
            have hz : z = 5 ∨ z = 6 := by
              split at e3
              · rename_i e4
                have := iEq_ok e4
                omega
              · have := iEq_ok e3
                omega
            rcases hz with rfl | rfl
            · exact ⟨5, .int 1, ⟨0, y1, y2⟩, a2, by rw [e]; exact gvG.trans (ghB_of h5), 1, rfl, 0, h0, rfl⟩
            · exact ⟨6, .int 1, ⟨0, y1, y2⟩, a2, by rw [e]; exact gvG.trans (ghB_of h6), 1, rfl, 0, h0, rfl⟩
          · cases hb
        · split at hb
          · rename_i e3
            have e3 := iLe_ok e3
            have e4 := iLe_ok hb
            refine ⟨z, v, ⟨0, y1, y2⟩, a2, ?_, a4⟩
            rw [gvG] at a3
            rw [e, gvG, ← ghL_U (T := T) (V := v00) hU (by omega) (by omega)]
            exact a3
          · cases hb
    · cases hb
  · refine ⟨z, v, a1, a2, ?_, a4⟩
    rw [← rdVwT (T := T) (V := v00)]
    · exact a3
    · rintro ⟨g, -⟩
      exact e g
    · intro g
      rw [g] at hb
      exact absurd (show false = true from hb) (by decide)
theorem tuG1 {g : Nat} {O : sxO} {σ : List Int} (h0 : σ[0]? = some 0) (h : sxOR (sxVw (ghL T V) scr 579 H) σ O) (hm : (579, (0, Int.ofNat g), (Sum.inr (false, (0, .ofNat 1)) : sxV)) ∈ O) : ∃ v, ghL T V H g = some v := by
  obtain ⟨z, v, ⟨y, y1, y2⟩, a2, a3, -⟩ := h _ hm
  dsimp only at y1 y2 a3
  rw [h0] at y1
  cases Option.some.inj y1
  rw [show z.toNat = g by simp only [Int.ofNat_eq_natCast] at y2; omega, gvG] at a3
  exact ⟨v, a3⟩
def tuTh0 : List sxN := [(0, 0), (1, 0), (4, 0), (3, 0), (4, 0), (5, 0), (6, 0), (7, 0), (8, 0), (9, 0), (10, 0), (11, 0), (12, 0), (13, 0), (14, 0), (15, 0), (16, 0), (17, 0)]
def tuB0 (J : Nat) : sxB := (18, (tuPc J).2.1, (tuPc J).2.2.1, [], [(40, (0, .ofNat 0), (0, .ofNat 0), (4, .ofNat 0))])
set_option maxRecDepth 1000000 in
theorem tuI0 {J : Nat} (hJ : J = 3 ∨ J = 11) : sxIncl 2 tuTh0 (tuF0 J) (tuPc J).2.2.2.1 [] (tuB0 J) (tuPc J).2.2.2.2.2.1 [] = true := by rcases hJ with rfl | rfl <;> decide +kernel
def tuTh1 : List sxN := [(0, 0), (1, 0), (4, 20), (3, 6), (4, 20), (5, 0), (6, 0), (7, 0), (8, 0), (9, 0), (10, 0), (11, 0), (12, 0), (13, 0), (14, 0), (15, 0), (16, 0), (17, 0)]
def tuB1 (J : Nat) : sxB := ((tuFP J).1, (tuFP J).2.1, (tuFP J).2.2.1, [], [])
def tuO1 (J : Nat) : sxO := (tuFP J).2.2.2.2.2.1.filter (fun q => (Nat.beq q.1 579 || Nat.beq q.1 1) || Nat.beq q.1 78 || Nat.beq q.1 0 || Nat.beq q.1 27 || Nat.beq q.1 52 || Nat.beq q.1 54 || Nat.beq q.1 56 || Nat.beq q.1 82 || Nat.beq q.1 92 || Nat.beq q.1 93 || Nat.beq q.1 94 || Nat.beq q.1 J)
set_option maxRecDepth 1000000 in
theorem tuI1 {J : Nat} (hJ : J = 3 ∨ J = 11) : sxIncl 2 tuTh1 (tuP J) (tuFP J).2.2.2.1 (tuFP J).2.2.2.2.1 (tuB1 J) (tuO1 J) [] = true := by rcases hJ with rfl | rfl <;> decide +kernel
theorem tuHas {O : sxO} {g : Nat} (h : O.any (fun q => Nat.beq q.1 579 && (fdN q.2.1 (0, Int.ofNat g) && (match q.2.2 with | .inr (false, m) => fdN m (0, .ofNat 1) | _ => false))) = true) : (579, (0, Int.ofNat g), (Sum.inr (false, (0, .ofNat 1)) : sxV)) ∈ O := by
  obtain ⟨q, q1, q2⟩ := List.any_eq_true.mp h
  simp only [Bool.and_eq_true] at q2
  obtain ⟨a, b, c⟩ := q2
  split at c
  · rename_i m hm
    have : q = (579, (0, Int.ofNat g), Sum.inr (false, (0, .ofNat 1))) := Prod.ext (Nat.eq_of_beq_eq_true a) (Prod.ext (fdN_ok b) (by rw [hm, fdN_ok c]))
    rw [← this]
    exact q1
  · cases c
theorem tuFeedJ {J : Nat} (hJ : J = 3 ∨ J = 11) (hneed : (tuFJ J).1.2.2.1 ≤ tuNeed) : tuGoodJ J 288 := by
  intro T scr Z d τ cl H hd hH hp hb hsl hgo hend
  have hl : τ.length = 18 := hp.1.1
  obtain ⟨p1, p2, p3, p4, p5, p6, p7, p8⟩ := hp
  obtain ⟨f, f1, f2, f3⟩ := p2 (4, .ofNat 0, .ofNat 600) (by simp [tuPc])
  obtain ⟨a, b, g1, g2, g3⟩ := p3 (4, 2, .ofNat 0) (by simp [tuPc])
  dsimp only at f1 f2 f3 g1 g2 g3
  simp only [Int.ofNat_eq_natCast] at f2 f3 g3
  rw [f1] at g1
  cases Option.some.inj g1
  rw [hb] at g2
  cases Option.some.inj g2
  obtain ⟨T1, t1, t2, t3⟩ := txCutU (T := T) (n := f.toNat) (by omega)
  have q5 := tuG1 (g := 5) p1.2 p6 (tuHas (by rcases hJ with rfl | rfl <;> decide +kernel))
  have q6 := tuG1 (g := 6) p1.2 p6 (tuHas (by rcases hJ with rfl | rfl <;> decide +kernel))
  have h5 : ghP5 T H := (ghB_iff (p := ghP5 T H) q5.choose_spec).1
  have h6 : ghP6 T H := (ghB_iff (p := ghP6 T H) q6.choose_spec).1
  have h51 : ghP5 T1 H := ghP5_cut (by omega) (fun k hk => t2 k (by omega)) h5
  have h61 : ghP6 T1 H := ghP6_cut (by omega) (fun k hk => t2 k (by omega)) h6
  have hO := tuOU p1.2 p6 t3 h51 h61 (by rcases hJ with rfl | rfl <;> decide +kernel)
  have hB : sxBR T1 τ (tuB0 J) := ⟨p1, p2, p3, (fun q hq => by cases hq), fun q hq => by
    cases List.mem_singleton.mp hq
    exact ⟨0, 0, f, ⟨0, p1.2, rfl⟩, ⟨0, p1.2, rfl⟩, ⟨f, f1, by simp⟩, by show (tLn T1 : Int) = f; omega⟩⟩
  obtain ⟨i1, i2⟩ := sxIncl_ok (r := 2) (n := 579) (vw := sxVw (ghL T1 v00) scr 579 H) (cl := cl) (cs := []) hB p4 (show sxSR τ [] [] from trivial) hO (fun q hq => by cases hq) (by decide) (tuI0 hJ)
  have e1 : (sxSb τ tuTh0)[1]? = τ[1]? := by
    rw [i2 1 (by decide), List.getD_eq_getElem?_getD, List.getElem?_eq_getElem (show 1 < τ.length by omega)]
    rfl
  have ef : τ.getD 4 0 = f := by rw [List.getD_eq_getElem?_getD, f1]; rfl
  have e2 : (sxSb τ tuTh0)[2]? = some f := by
    show some (sxEv τ (4, 0)) = some f
    unfold sxEv
    rw [ef]
    simp
  have em : sxMv (sxSb τ tuTh0) (1, 3, 0) = sxMv τ (1, 3, 0) := by
    unfold sxMv
    have k1 : (sxSb τ tuTh0).getD 1 0 = τ.getD 1 0 := by rw [List.getD_eq_getElem?_getD, e1, ← List.getD_eq_getElem?_getD]
    have k2 : (sxSb τ tuTh0).getD 3 0 = τ.getD 3 0 := by
      show sxEv τ (3, 0) = _
      unfold sxEv
      simp
    dsimp only
    rw [k1, k2]
  have hl1 : (sxSb τ tuTh0).length = 18 := by rw [i1.1.1]; rfl
  generalize sxSb τ tuTh0 = τ1 at i1 e1 e2 em hl1
  have hsl1 : sxSl τ1 (some (1, 0)) scr := by
    obtain ⟨xs, s1, s2, y, s3, s4⟩ := hsl
    exact ⟨xs, s1, s2, y, by rw [e1]; exact s3, s4⟩
  have hu : sxUp (τ1.take 3) τ1 := by
    intro s z hs
    rw [List.getElem?_take] at hs
    split at hs
    · exact hs
    · cases hs
  have upi : ∀ τ', sxUp (τ1.take 3) τ' → ∀ i, i < 3 → τ'[i]? = τ1[i]? := by
    intro τ' h1 i hi
    have e : τ1[i]? = some τ1[i] := List.getElem?_eq_getElem (by omega)
    rw [e]
    exact h1 i _ (by rw [List.getElem?_take, if_pos hi, e])
  refine sxSegX (J := (tuFJ J)) (p := (tuF0 J)) (C0 := 0) (S0 := 0) (v0 := sxVw (ghL T1 v00) scr 579 H) (τ0 := τ1.take 3) (τ := τ1) (me := some tuMe) _ (tuF_go hJ) ghGd (show sxKw.2.1 < mjScr by decide) (show 0 < 3 by decide) (fun c hc => (by cases hc)) (Nat.le_trans hneed hd) hu (by rw [List.length_take, hl1]; rfl) (fun b hb => ?_) hsl1 i1 hH sxKp.rf (Nat.le_refl _) (Nat.le_refl _) ?_ (fun p hp => (by cases hp)) (fun q hq => (by cases hq))
  · cases hb
    rw [hl1]
    unfold sxMin tuMe
    decide
  · intro u hu' τ' cl' cs' H' C S k1 k2 k3 k4 k5 k6 k7
    have k7 := k7 _ rfl
    rcases List.mem_cons.mp hu' with rfl | hu'
    · have k5 : C ≤ 0 := k5
      have k6 : S ≤ 0 := k6
      refine hgo J T1 τ' cl' cs' H' C S hJ ((upi τ' k1 1 (by decide)).trans e1) ?_ k2 k3 (by omega) (by omega) ?_
      · rw [upi τ' k1 2 (by decide), e2]
        exact congrArg some (by omega)
      · unfold sxLt3 sxMvs tuMe at k7
        dsimp only at k7
        try simp only [Int.ofNat_eq_natCast, Int.natCast_zero] at k7
        rw [tuMv0, tuMv0, em] at k7
        try simp only [Int.ofNat_eq_natCast, Int.natCast_zero] at k7
        omega
    · cases List.mem_singleton.mp hu'
      have k5 : C ≤ 0 := k5
      have k6 : S ≤ 0 := k6
      have k2 : sxPtR T1 579 (sxVw (ghL T1 v00) scr 579 H') τ' (tuFP J) cl' cs' := k2
      have hf4 : τ'[4]? = some ((f.toNat : Nat) : Int) := by
        obtain ⟨q, q1, q2⟩ := List.any_eq_true.mp (show (tuFP J).2.2.2.2.2.2.2.any (fun q => Nat.beq q.1 40 && fdN q.2.2.2 (4, .ofNat 0)) = true by rcases hJ with rfl | rfl <;> decide +kernel)
        simp only [Bool.and_eq_true] at q2
        obtain ⟨aa, bb, zz, -, -, ⟨w, w1, w2⟩, z4⟩ := k2.2.2.2.2.2.2.2 q q1
        rw [Nat.eq_of_beq_eq_true q2.1] at z4
        rw [fdN_ok q2.2] at w1 w2
        have z4 : (tLn T1 : Int) = zz := z4
        dsimp only at w1 w2
        rw [w1]
        simp only [Int.ofNat_eq_natCast] at w2
        exact congrArg some (by omega)
      have by20 : ∀ j, j < 20 → ∃ x y : Int32, sxEl H' 2 (f.toNat + j) = some (.int x) ∧ sxEl H' 79 (f.toNat + j) = some (.int y) ∧ ((0 ≤ y.toInt ∧ y.toInt ≤ 255) ∧ -128 ≤ x.toInt ∧ x.toInt ≤ 127) ∧ y.toInt = if x.toInt < 0 then x.toInt + 256 else x.toInt := fun j hj => fdJ_ok (List.all_eq_true.mp (fdAll hJ) j (List.mem_range.mpr hj)) k2 hf4
      have r5 : ghP5 T1 H' := (ghB_iff (p := ghP5 T1 H') (tuG1 (g := 5) k2.1.2 k2.2.2.2.2.2.1 (tuHas (by rcases hJ with rfl | rfl <;> decide +kernel))).choose_spec).1
      have r6 : ghP6 T1 H' := (ghB_iff (p := ghP6 T1 H') (tuG1 (g := 6) k2.1.2 k2.2.2.2.2.2.1 (tuHas (by rcases hJ with rfl | rfl <;> decide +kernel))).choose_spec).1
      have row : ∀ k, k < f.toNat + 20 → ∃ x y : Int32, sxEl H' 2 k = some (.int x) ∧ sxEl H' 79 k = some (.int y) ∧ ((0 ≤ y.toInt ∧ y.toInt ≤ 255) ∧ -128 ≤ x.toInt ∧ x.toInt ≤ 127) ∧ y.toInt = if x.toInt < 0 then x.toInt + 256 else x.toInt := by
        intro k hk
        by_cases hkf : k < f.toNat
        · obtain ⟨x, x1, x2, x3⟩ := r5 k (by omega)
          obtain ⟨y, y1, y2, y3⟩ := r6 k (by omega)
          exact ⟨x, y, x1, y1, ⟨y2, x2⟩, by rw [← y3, x3]⟩
        · have := by20 (k - f.toNat) (by omega)
          rw [show f.toNat + (k - f.toNat) = k by omega] at this
          exact this
      have hf580 : f ≤ 580 := by
        obtain ⟨q, q1, q2⟩ := List.any_eq_true.mp (show (tuFP J).2.1.any (fun q => Nat.beq q.1 4 && iLe q.2.2 580) = true by rcases hJ with rfl | rfl <;> decide +kernel)
        rw [Bool.and_eq_true] at q2
        obtain ⟨z, z1, z2, z3⟩ := k2.2.1 q q1
        rw [Nat.eq_of_beq_eq_true q2.1, hf4] at z1
        cases Option.some.inj z1
        have := iLe_ok q2.2
        omega
      obtain ⟨T2, u1, u2, u3⟩ := txMkU T1 (n := f.toNat + 20) (g := fun k => if k < f.toNat + 20 then ((ghV H' 79 k).toNat % 256) else 0) (by omega) (fun k => by split <;> omega)
      have ub : ∀ k, k < f.toNat + 20 → ∀ y : Int32, sxEl H' 79 k = some (.int y) → 0 ≤ y.toInt → y.toInt ≤ 255 → tBy T2 k = y.toInt := by
        intro k hk y hy y1 y2
        rw [u2 k hk, if_pos hk]
        unfold ghV
        rw [hy]
        dsimp only
        omega
      have v5 : ghP5 T2 H' := fun k hk => by
        obtain ⟨x, y, x1, y1, ⟨⟨y2, y3⟩, x2⟩, x3⟩ := row k (by omega)
        exact ⟨x, x1, x2, by rw [ub k (by omega) y y1 y2 y3, x3]⟩
      have v6 : ghP6 T2 H' := fun k hk => by
        obtain ⟨x, y, x1, y1, ⟨⟨y2, y3⟩, x2⟩, x3⟩ := row k (by omega)
        exact ⟨y, y1, ⟨y2, y3⟩, ub k (by omega) y y1 y2 y3⟩
      obtain ⟨m1, m2, m3, m4, m5, m6, m7, m8⟩ := k2
      have hO2 := tuOU (O := (tuO1 J)) m1.2 (fun q hq => m6 q (List.mem_filter.mp hq).1) u3 v5 v6 (by rcases hJ with rfl | rfl <;> decide +kernel)
      have hB2 : sxBR T2 τ' (tuB1 J) := ⟨m1, m2, m3, (fun q hq => by cases hq), fun q hq => by cases hq⟩
      obtain ⟨j1, j2⟩ := sxIncl_ok (r := 2) (n := 579) (vw := sxVw (ghL T2 v00) scr 579 H') (cl := cl') (cs := cs') hB2 m4 m5 hO2 (fun q hq => by cases hq) (by decide) (tuI1 hJ)
      have hlong : 1 < τ'.length := by rw [m1.1]; rcases hJ with rfl | rfl <;> decide
      have w1 : (sxSb τ' tuTh1)[1]? = τ'[1]? := by
        rw [j2 1 (by decide), List.getD_eq_getElem?_getD, List.getElem?_eq_getElem hlong]
        rfl
      refine hgo J T2 _ cl' cs' H' C S hJ (w1.trans ((upi τ' k1 1 (by decide)).trans e1)) ?_ j1 k3 (by omega) (by omega) ?_
      · show some (sxEv τ' (4, 20)) = _
        unfold sxEv
        rw [List.getD_eq_getElem?_getD, hf4]
        exact congrArg some (by simp only [Option.getD_some]; omega)
      · unfold sxLt3 sxMvs tuMe at k7
        dsimp only at k7
        try simp only [Int.ofNat_eq_natCast, Int.natCast_zero] at k7
        rw [tuMv0, tuMv0, em] at k7
        try simp only [Int.ofNat_eq_natCast, Int.natCast_zero] at k7
        have k7 : sxMv τ' (1, 3, Int.negSucc 5) < sxMv τ (1, 3, 0) := by omega
        have e6 : Int.negSucc 5 = -6 := rfl
        rw [e6] at k7
        refine Int.lt_of_le_of_lt (Int.le_of_eq ?_) k7
        unfold sxMv
        dsimp only
        have c1 : (sxSb τ' tuTh1).getD 1 0 = τ'.getD 1 0 := by rw [List.getD_eq_getElem?_getD, w1, ← List.getD_eq_getElem?_getD]
        have c2 : (sxSb τ' tuTh1).getD 3 0 = τ'.getD 3 0 + 6 := rfl
        rw [c1, c2]
        omega
theorem tuFeed : tuGood 288 := ⟨tuFeedJ (Or.inl rfl) (by decide), tuFeedJ (Or.inr rfl) (by decide)⟩
end TUFEED2
