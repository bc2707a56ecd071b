/-! SX: the ghost's rules hold -/
noncomputable section GHRULE
variable {T : Nat} {V : rdVt}
variable {σ : List Int} {B : sxB} {O : sxO} {G : sxG} {scr : Option (List Int32)} {H H' : mjH} {i j : Nat} {a b : sxV}
theorem gOne {g : Nat} (hB : sxBR T σ B) (h : (ghL T V) H g = some (.int 1)) : sxOR (sxVw (ghL T V) scr 579 H) σ [(579, (0, Int.ofNat g), sxOne1)] := by
  intro q hq
  rw [List.mem_singleton] at hq
  subst hq
  refine ⟨(g : Int), .int 1, ⟨0, hB.1.2, by simp⟩, by omega, ?_, ⟨1, rfl, 0, hB.1.2, by decide⟩⟩
  rw [show ((g : Int)).toNat = g by omega]
  dsimp only
  rw [gvG]
  exact h
theorem gNil {vw : Nat → Nat → Option Value} : sxOR vw σ [] := fun q hq => by cases hq
theorem gApp {vw : Nat → Nat → Option Value} {O1 O2 : sxO} (h1 : sxOR vw σ O1) (h2 : sxOR vw σ O2) : sxOR vw σ (O1 ++ O2) := fun q hq => by
  rcases List.mem_append.mp hq with hq | hq
  · exact h1 q hq
  · exact h2 q hq
theorem gNum1 {y : sxN} {x : Int32} {g : Nat} (h : (ghL T V) H g = some (.int x)) (hB : sxBR T σ B) (hy : sxNR σ y x.toInt) : sxOR (sxVw (ghL T V) scr 579 H) σ [(579, (0, Int.ofNat g), .inr (false, (y.1, y.2)))] := by
  intro q hq
  rw [List.mem_singleton] at hq
  subst hq
  refine ⟨(g : Int), .int x, ⟨0, hB.1.2, by simp⟩, by omega, ?_, ⟨x, rfl, hy⟩⟩
  rw [show ((g : Int)).toNat = g by omega]
  dsimp only
  rw [gvG]
  exact h
theorem gNew4 {y : sxN} {z : Int} (hB : sxBR T σ B) (hy : sxNR σ y z) (hz : z = ghV H 78 4 - ghV H 78 28) : sxOR (sxVw (ghL T V) scr 579 H) σ (sxNew4 579 B y) := by
  unfold sxNew4
  split
  · rename_i r hr
    have h1 := sxRg_ok hB hr hy
    split
    · rename_i hm
      have hm := sxRm_ok hm
      simp only [sxM32] at hm
      rw [iFc_eq]
      obtain ⟨x, e1, e2⟩ := ghL4_of (H := H) (z := z) ⟨hz, by omega, by omega⟩
      exact gNum1 (g := 4) e1 hB (by rw [e2]; exact hy)
    · exact gNil
  · exact gNil
theorem gNewA {w : Value} (hB : sxBR T σ B) (hO : sxOR (sxVw (ghL T V) scr 579 H) σ O) (ha : sxVR σ a w) (hw : ∀ x : Int32, w = .int x → ghV H' 78 4 = x.toInt) (hc : ghV H' 78 28 = ghV H 78 28) : sxOR (sxVw (ghL T V) scr 579 H') σ (sxNewA 579 B O a) := by
  unfold sxNewA
  split
  · rename_i s hs
    split
    · rename_i u hu
      split
      · rename_i v
        split
        · rename_i hb
          have hb := beqOk hb
          obtain ⟨x, rfl, hx⟩ := ha
          obtain ⟨vs, s1, s2⟩ := gOl (j := 4) hB hO hs
          rw [gvG] at s1
          obtain ⟨xs, rfl, s3⟩ := ghL4 s1
          obtain ⟨xs', e, s4⟩ := s2
          cases e
          have u1 := sxNm_ok hB (gOI (j := 4) (by omega) hB hO hu)
          have v1 := sxNm_ok hB hx
          obtain ⟨U, f1, f2⟩ := u1
          obtain ⟨V, f3, f4⟩ := v1
          rw [hb] at f1
          cases Option.some.inj (f1.symm.trans f3)
          obtain ⟨S, f5, f6⟩ := s4
          refine gNew4 (z := S + (s.2 + ((sxNm B v).2 - (sxNm B u).2))) hB ⟨S, f5, rfl⟩ ?_
          rw [hw x rfl, hc]
          omega
        · exact gNil
      · exact gNil
    · exact gNil
  · exact gNil
theorem gNewC {m : Nat} (hB : sxBR T σ B) (hO : sxOR (sxVw (ghL T V) scr 579 H) σ O) (hw : ghV H' 78 28 = m) (hc : ghV H' 78 4 = ghV H 78 4) : sxOR (sxVw (ghL T V) scr 579 H') σ (sxNewC 579 B O m) := by
  unfold sxNewC
  split
  · rename_i s hs
    split
    · rename_i u hu
      obtain ⟨vs, s1, s2⟩ := gOl (j := 4) hB hO hs
      rw [gvG] at s1
      obtain ⟨xs, rfl, s3⟩ := ghL4 s1
      obtain ⟨xs', e, s4⟩ := s2
      cases e
      have u1 := gNumV (by omega) hB hO hu
      obtain ⟨S, f5, f6⟩ := s4
      refine gNew4 (z := S + (s.2 - (Int.ofNat m - u))) hB ⟨S, f5, rfl⟩ ?_
      rw [hw, hc]
      simp only [Int.ofNat_eq_natCast]
      omega
    · exact gNil
  · split
    · rename_i u hu
      obtain ⟨S, f5, f6⟩ := gOI (j := 4) (by omega) hB hO hu
      refine gNew4 (z := S + (u.2 - Int.ofNat m)) hB ⟨S, f5, rfl⟩ ?_
      rw [hw, hc]
      simp only [Int.ofNat_eq_natCast]
      omega
    · exact gNil
theorem gStp {w h x y : sxN} {rw' rh : Int × Int} {W : Int} {h0 : Nat} (hB : sxBR T σ B) (hw : rw'.1 ≤ W ∧ W ≤ rw'.2) (hh : rh.1 ≤ (h0 : Int) ∧ (h0 : Int) ≤ rh.2) (hx : sxNR σ x h0) (h : sxStp1 rw' rh x = some y) : ∃ k, ghS W h0 = some k ∧ sxNR σ y k := by
  obtain ⟨X, f1, f2⟩ := hx
  unfold sxStp1 at h
  split at h
  · rename_i c
    have c := iLe_ok c
    split at h
    · cases h
      exact ⟨h0 + 1, by unfold ghS; rw [if_pos (by omega)], X, f1, by dsimp only; omega⟩
    · cases h
  · rename_i c
    have c := iLe_no c
    split at h
    · rename_i c2
      have c2 := iLe_no c2
      split at h
      · rename_i c3
        have c3 := iLe_ok c3
        split at h
        · rename_i c4
          have c4 := iLe_ok c4
          split at h
          · rename_i c5
            have c5 := iLe_ok c5
            cases h
            exact ⟨h0 - 1, by unfold ghS; rw [if_neg (by omega), if_neg (by omega), if_pos (by omega)], X, f1, by dsimp only; omega⟩
          · cases h
        · cases h
      · cases h
    · rename_i c2
      have c2 := iLe_ok c2
      split at h
      · rename_i c3
        have c3 := iLe_ok c3
        split at h
        · rename_i c4
          have c4 := iLe_ok c4
          cases h
          exact ⟨h0, by unfold ghS; rw [if_neg (by omega), if_pos (by omega), if_pos (by omega)], X, f1, by omega⟩
        · cases h
      · split at h
        · rename_i c4
          have c4 := iLe_ok c4
          split at h
          · rename_i c5
            have c5 := iLe_ok c5
            cases h
            exact ⟨h0 - 1, by unfold ghS; rw [if_neg (by omega), if_neg (by omega), if_pos (by omega)], X, f1, by dsimp only; omega⟩
          · cases h
        · cases h
theorem gNewH {c : Nat} (hB : sxBR T σ B) (hO : sxOR (sxVw (ghL T V) scr 579 H) σ O) (hc : ghV H 78 28 = c) (hc2 : c < 220) (hw : ghV H' 78 28 = ((c + 1 : Nat) : Int)) (h26 : ghV H' 78 26 = ghV H 78 26) (hrow : ∀ k q, 107 ≤ k → ghV H' k q = ghV H k q) : sxOR (sxVw (ghL T V) scr 579 H') σ (sxNewH 579 B O c) := by
  unfold sxNewH
  split
  · rename_i h hh
    split
    · rename_i w hw1
      split
      · rename_i rh hrh
        split
        · rename_i rw' hrw
          split
          · rename_i y hy
            rw [iFc_eq]
            obtain ⟨v, s1, s2⟩ := gOl (j := 0) hB hO hh
            rw [gvG] at s1
            obtain ⟨h0, p0, x, rfl, s3⟩ := ghL0 s1
            obtain ⟨x', e, s4⟩ := s2
            cases e
            rw [s3] at s4
            have w1 := gOI (j := 0) (by omega) hB hO hw1
            obtain ⟨k, k1, k2⟩ := gStp (w := w) (h := h) hB (sxRg_ok hB hrw w1) (sxRg_ok hB hrh s4) s4 hy
            have p1 : ghP0 H' k := by
              obtain ⟨a, b, r, ha, hb, h1, h2, h3, h4⟩ := p0
              refine ⟨a, b + 1, by rw [h26]; exact r, by rw [h26, hrow _ _ (by omega)]; exact ha, by rw [hw]; omega, h1, by omega, by omega, ?_⟩
              rw [show (b + 1 - a).toNat = (b - a).toNat + 1 by omega]
              unfold ghH
              rw [ghH_congr (c := ghRc H') (d := ghRc H) (fun q q1 q2 => hrow (339 + q) 0 (by omega)), h4]
              show ghS (ghRc H' (a.toNat + (b - a).toNat)) h0 = some k
              rw [show a.toNat + (b - a).toNat = c by omega, ← k1]
              unfold ghRc
              rw [hrow _ _ (by omega)]
            obtain ⟨z, z1, z2⟩ := ghL0_of p1
            exact gNum1 (g := 0) z1 hB (by rw [z2]; exact k2)
          · exact gNil
        · exact gNil
      · exact gNil
    · exact gNil
  · exact gNil
theorem gNewI (t : Bool) (hB : sxBR T σ B) (h : t = true → (ghL T V) H 1 = some (.int 1)) : sxOR (sxVw (ghL T V) scr 579 H) σ (sxNew1 579 t) := by
  unfold sxNew1
  split
  · exact gOne hB (h rfl)
  · exact gNil
theorem gRule {t : Nat} {vs : List Value} {x : sxN} {X : Int} {w : Value} (hB : sxBR T σ B) (hO : sxOR (sxVw (ghL T V) scr 579 H) σ O) (hi : H[i]? = some (t, vs)) (hx : sxNR σ x X) (h0 : 0 ≤ X) (hX : X.toNat < vs.length) (ha : sxVR σ a w) : sxOR (sxVw (ghL T V) scr 579 (H.set i (t, vs.set X.toNat w))) σ (sxNewG 579 B O i x a) := by
  unfold sxNewG
  split
  · exact gNil
  rename_i ci
  have ci := beqOk ci
  subst ci
  split
  · rename_i j
    have hXj := sxN0 hB hx
    have hXj : X.toNat = j := by simp only [Int.ofNat_eq_natCast] at hXj; omega
    rw [hXj] at hX ⊢
    have V : ∀ {p q : Nat}, ¬ (p = 78 ∧ q = j) → ghV (H.set 78 (t, vs.set j w)) p q = ghV H p q := fun h => gSetV hi h
    have W : ∀ z : Int32, w = .int z → ghV (H.set 78 (t, vs.set j w)) 78 j = z.toInt := by
      intro z hz
      unfold ghV
      rw [gSetS hi hX, hz]
    have WN : ∀ {m : sxN} {n : Nat}, a = .inr (false, m) → sxNm B m = (0, Int.ofNat n) → ghV (H.set 78 (t, vs.set j w)) 78 j = (n : Int) := by
      intro m n e1 e2
      subst e1
      obtain ⟨z, e3, hz⟩ := ha
      have hz := sxNm_ok hB hz
      rw [e2] at hz
      have := sxN0 hB hz
      rw [W z e3, this]
      rfl
    split
    · rename_i cj
      have cj := beqOk cj
      subst cj
      split
      · rename_i m
        split
        · rename_i n hn
          have hwn := WN rfl hn
          refine gApp (gNewC hB hO hwn (V (by omega))) ?_
          split
          · rename_i hl
            have hl := gLim hB hO hl
            refine gNewI _ hB (fun _ => ghB_of fun k k1 k2 => ?_)
            rw [V (by omega)] at k2
            omega
          · split
            · rename_i c hc
              have hc := gNumV (by omega) hB hO hc
              split
              · rename_i hm
                have hm := beqOk hm
                subst hm
                split
                · rename_i hlt
                  have hlt := bltOk hlt
                  refine gApp (gNewH hB hO hc hlt hwn (V (by omega)) (fun k q hk => V (by omega))) (gNewI _ hB fun h1 => ?_)
                  obtain ⟨v, hv⟩ := gIs1 hB hO h1
                  obtain ⟨hp, -⟩ := ghB_iff hv
                  refine ghB_of fun k k1 k2 => ?_
                  rw [V (by omega)] at k2
                  have := hp k k1 k2
                  rw [V (p := 107 + k) (by omega), V (p := 107 + k) (by omega), hwn]
                  refine ⟨(ghOk_congr fun q q1 q2 => V (p := 339 + q) (by omega)).mpr this.1, ?_⟩
                  have := this.2
                  simp only [Int.ofNat_eq_natCast] at hc
                  omega
                · exact gNil
              · exact gNil
            · exact gNil
        · exact gNil
      · exact gNil
    · split
      · rename_i cj
        have cj := beqOk cj
        subst cj
        split
        · rename_i m
          split
          · rename_i n hn
            have hwn := WN rfl hn
            split
            · rename_i r hr
              have hr := gNumV (by omega) hB hO hr
              simp only [Int.ofNat_eq_natCast] at hr
              split
              · rename_i hm
                have hm := beqOk hm
                subst hm
                refine gNewI _ hB fun h1 => ?_
                unfold sxRowOk at h1
                split at h1
                · rename_i h hh
                  split at h1
                  · rename_i a1 ha1
                    split at h1
                    · rename_i b1 hb1
                      split at h1
                      · rename_i hsame
                        obtain ⟨v, hv⟩ := gIs1 hB hO h1
                        obtain ⟨hp, -⟩ := ghB_iff hv
                        obtain ⟨u, s1, s2⟩ := gOl (j := 0) hB hO hh
                        rw [gvG] at s1
                        obtain ⟨h0, ⟨a2, b2, r2, ha2, hb2, q1, q2, q3, q4⟩, -⟩ := ghL0 s1
                        obtain ⟨v1, y1, y2⟩ := gOl (j := 2) hB hO ha1
                        obtain ⟨v2, y3, y4⟩ := gOl (j := 28) hB hO hb1
                        obtain ⟨e, z, ez⟩ := gSame hB hsame y2 y4
                        subst e
                        subst ez
                        rw [gvE (by omega)] at y1
                        rw [gvE (by omega)] at y3
                        have e1 : ghV H (107 + r) 2 = ghV H 78 28 := by
                          unfold ghV
                          rw [y1, y3]
                        refine ghB_of fun k k1 k2 => ?_
                        rw [hwn] at k2
                        rw [V (p := 107 + k) (by omega), V (p := 107 + k) (by omega), V (p := 78) (q := 28) (by omega)]
                        by_cases hk : (k : Int) < r
                        · have := hp k k1 (by omega)
                          exact ⟨(ghOk_congr fun q q1 q2 => V (p := 339 + q) (by omega)).mpr this.1, this.2⟩
                        · have hkr : k = r := by omega
                          subst hkr
                          rw [hr, show ((k : Int)).toNat = k by omega] at ha2
                          rw [e1, ← ha2, ← hb2]
                          exact ⟨(ghOk_congr fun q q1 q2 => V (p := 339 + q) (by omega)).mpr ⟨q1, q2, q3, h0, q4⟩, Int.le_refl _⟩
                      · cases h1
                    · cases h1
                  · cases h1
                · cases h1
              · exact gNil
            · exact gNil
          · exact gNil
        · exact gNil
      · split
        · rename_i cj
          have cj := beqOk cj
          subst cj
          exact gNewA hB hO ha W (V (by omega))
        · exact gNil
  · exact gNil
theorem gOE {x : sxN} {z : Int} {v : Value} {k : Nat} (hk : k < 579) (h1 : sxVw (ghL T V) scr 579 H k z.toNat = some v) : sxEl H k z.toNat = some v := by
  rw [gvE hk] at h1
  exact h1
theorem gRdO {f5 f6 : Bool} (h5 : f5 = true → ghP5 T H) (h6 : f6 = true → ghP6 T H) : ∀ {O : sxO} {B : sxB}, sxOR (sxVw (ghL T V) scr 579 H) σ O → sxBR T σ B → sxBR T σ (sxRdO f5 f6 O B)
  | [], _, _, hB => hB
  | q :: r, B, hO, hB => by
    have hr : sxOR (sxVw (ghL T V) scr 579 H) σ r := fun q hq => hO q (List.mem_cons_of_mem _ hq)
    obtain ⟨z, w, z1, z2, z3, z4⟩ := hO q List.mem_cons_self
    unfold sxRdO
    split
    · rename_i v hv
      rw [hv] at z4
      obtain ⟨x, rfl, hx⟩ := z4
      split
      · rename_i c
        have c := beqOk c
        rw [c] at z3
        rw [gvE (by omega)] at z3
        split
        · refine gRdO h5 h6 hr (sxRdT_ok hB z1 hx fun a1 a2 => ?_)
          obtain ⟨y, y1, y2, y3⟩ := h5 rfl z.toNat (by omega)
          rw [z3] at y1
          cases y1
          rw [show ((z.toNat : Nat) : Int) = z by omega] at y3
          exact ⟨by omega, by omega, y3⟩
        · exact gRdO h5 h6 hr hB
      · split
        · rename_i c
          have c := beqOk c
          rw [c] at z3
          rw [gvE (by omega)] at z3
          split
          · refine gRdO h5 h6 hr (sxRdT_ok hB z1 hx fun a1 a2 => ?_)
            obtain ⟨y, y1, y2, y3⟩ := h6 rfl z.toNat (by omega)
            rw [z3] at y1
            cases y1
            rw [show ((z.toNat : Nat) : Int) = z by omega] at y3
            exact ⟨by omega, by omega, by rw [y3, if_neg (by omega)]⟩
          · exact gRdO h5 h6 hr hB
        · exact gRdO h5 h6 hr hB
    · exact gRdO h5 h6 hr hB
theorem gRul (hB : sxBR T σ B) (hO : sxOR (sxVw (ghL T V) scr 579 H) σ O) : sxBR T σ (sxRul 579 B O) := by
  have key : sxBR T σ (sxRdO (sxIs1 B O 579 5) (sxIs1 B O 579 6) O B) := ?_
  · exact sxPss_ok (sxPa_ok key.2.2.2.1 key)
  refine gRdO (H := H) (scr := scr) (fun e => ?_) (fun e => ?_) hO hB
  · obtain ⟨v, hv⟩ := gIs1 hB hO e
    exact (ghB_iff hv).1
  · obtain ⟨v, hv⟩ := gIs1 hB hO e
    exact (ghB_iff hv).1
theorem gHk {B' : sxB} {O' : sxO} {G' : sxG} (hB : sxBR T σ B) (hO : sxOR (sxVw (ghL T V) scr 579 H) σ O) (hG : sxGR (sxVw (ghL T V) scr 579 H) σ G) (h : sxHk 579 j B O G = some (B', O', G')) : sxBR T σ B' ∧ sxOR (sxVw (ghL T V) scr 579 H) σ O' ∧ sxGR (sxVw (ghL T V) scr 579 H) σ G' := by
  have one : ∀ {g : Nat}, (ghL T V) H g = some (.int 1) → sxOR (sxVw (ghL T V) scr 579 H) σ ((579, (0, Int.ofNat g), sxOne1) :: O) := fun hg => gApp (O1 := [_]) (gOne hB hg) hO
  unfold sxHk at h
  split at h
  · split at h
    · rename_i r hr
      have hr := gNumV (by omega) hB hO hr
      simp only [Int.ofNat_eq_natCast] at hr
      split at h
      · rename_i a1 ha1
        split at h
        · rename_i b1 hb1
          split at h
          · rename_i hsame
            split at h
            · rename_i hv
              split at h
              · rename_i hlt
                have hlt := bltOk hlt
                cases h
                obtain ⟨v1, y1, y2⟩ := gOl (j := 1) hB hO ha1
                obtain ⟨v2, y3, y4⟩ := gOl (j := 28) hB hO hb1
                obtain ⟨e, z, ez⟩ := gSame hB hsame y2 y4
                subst e
                subst ez
                obtain ⟨z', ez, z1, z2⟩ := sxVle_ok hB hv y4
                cases ez
                rw [gvE (by omega)] at y1
                rw [gvE (by omega)] at y3
                have e1 : ghV H (107 + r) 1 = z.toInt := by unfold ghV; rw [y1]
                have e2 : ghV H 78 28 = z.toInt := by unfold ghV; rw [y3]
                have p : ghP0 H 0 := ⟨z.toInt, z.toInt, by rw [hr]; omega, by rw [hr, show ((r : Int)).toNat = r by omega, e1], e2.symm, z1, Int.le_refl _, z2, by rw [show (z.toInt - z.toInt).toNat = 0 by omega]; rfl⟩
                obtain ⟨q, q1, q2⟩ := ghL0_of p
                exact ⟨hB, gApp (O1 := [_]) (gNum1 (y := (0, 0)) (g := 0) q1 hB ⟨0, hB.1.2, by rw [q2]; rfl⟩) hO, hG⟩
              · cases h
            · cases h
          · cases h
        · cases h
      · cases h
    · cases h
  · split at h
    · rename_i v hv
      have hv := gNumV (by omega) hB hO hv
      split at h
      · rename_i e
        have e := iEq_ok e
        cases h
        exact ⟨hB, one (g := 1) (ghB_of fun k k1 k2 => by omega), hG⟩
      · cases h
    · cases h
  · split at h
    · rename_i v hv
      have hv := gNumV (by omega) hB hO hv
      split at h
      · rename_i e
        have e := iEq_ok e
        cases h
        exact ⟨hB, one (g := 2) (ghB_of fun k k1 k2 => by omega), hG⟩
      · cases h
    · cases h
  · split at h
    · rename_i u hu
      have hu := gOI (j := 0) (by omega) hB hO hu
      split at h
      · rename_i q hq
        have hq := sxRg_ok hB hq hu
        split at h
        · rename_i e
          have e := iLe_ok e
          cases h
          exact ⟨hB, one (g := 3) (ghB_of fun l => by omega), hG⟩
        · split at h
          · rename_i m hm
            have hm := gOI (j := 1) (by omega) hB hO hm
            split at h
            · rename_i hle
              have := sxLe_ok hB hle hm ⟨0, hB.1.2, by simp⟩ (Y := 0)
              cases h
              exact ⟨hB, one (g := 3) (ghB_of fun l k v hk hv => by omega), hG⟩
            split at h
            · rename_i hany
              cases h
              refine ⟨hB, one (g := 3) (ghB_of fun l k v hk hv => ?_), hG⟩
              obtain ⟨g, g1, g2⟩ := List.any_eq_true.mp hany
              split at g2
              · rename_i e1
                have e1 := beqOk e1
                split at g2
                · rename_i e2
                  obtain ⟨z, z1, z2⟩ := hG g g1
                  have := sxLe_ok hB e2 hm z1
                  have hs := z2 k v (by omega) (by rw [e1, gvE (by omega)]; exact hv)
                  unfold sxPl0 at g2
                  split at g2
                  · rename_i lo hi hp
                    rw [hp] at hs
                    split at g2
                    · rename_i e3
                      have e3 := iLe_ok e3
                      have e4 := iLe_ok g2
                      obtain ⟨x, rfl, x1, x2⟩ := hs
                      exact ⟨x, rfl, by omega, by omega⟩
                    · cases g2
                  · cases g2
                · cases g2
              · cases g2
            · cases h
          · cases h
      · cases h
    · cases h
  · split at h
    · rename_i y hy
      cases h
      obtain ⟨v, s1, s2⟩ := gOl (j := 0) hB hO hy
      rw [gvG] at s1
      obtain ⟨h0, p0, x, rfl, s3⟩ := ghL0 s1
      obtain ⟨x', e, s4⟩ := s2
      cases e
      have := ghP0_le p0
      exact ⟨sxAsm_ok (Y := 220) hB s4 ⟨0, hB.1.2, by simp⟩ (by omega), hO, hG⟩
    · cases h
  · split at h
    · rename_i t ht
      split at h
      · rename_i m hm
        split at h
        · rename_i h1
          split at h
          · rename_i q hq
            split at h
            · rename_i e
              have e := iLe_ok e
              cases h
              have ht := sxRg_ok hB hq (gOI (j := 0) (by omega) hB hO ht)
              have hm := gOI (j := 1) (by omega) hB hO hm
              obtain ⟨v, hv⟩ := gIs1 hB hO h1
              obtain ⟨hp, -⟩ := ghB_iff hv
              refine ⟨hB, hO, fun q hq => ?_⟩
              rcases List.mem_cons.mp hq with rfl | hq
              · refine ⟨_, hm, fun j v hj hv => ?_⟩
                rw [gvE (by dsimp only; omega)] at hv
                obtain ⟨x, rfl, x1, x2⟩ := hp (by omega) j v hj hv
                exact ⟨x, rfl, x1, x2⟩
              · exact hG q hq
            · cases h
          · cases h
        · cases h
      · cases h
    · cases h
  · cases h
    exact ⟨gRul hB hO, hO, hG⟩
  · split at h
    · rename_i s hs
      split at h
      · rename_i u hu
        split at h
        · rename_i c hc
          split at h
          · rename_i r hr
            cases h
            obtain ⟨v, s1, s2⟩ := gOl (j := 4) hB hO hs
            rw [gvG] at s1
            obtain ⟨x, rfl, s3⟩ := ghL4 s1
            obtain ⟨x', e, s4⟩ := s2
            cases e
            have hr := sxRg_ok hB hr s4
            exact ⟨sxAsm_ok hB (gOI (j := 28) (by omega) hB hO hc) (gOI (j := 4) (by omega) hB hO hu) (by omega), hO, hG⟩
          · cases h
        · cases h
      · cases h
    · cases h
/-- the ghost keeps to its rules -/
theorem ghGd : sxGd sxKw (ghL T V) :=
  ⟨fun _ _ _ _ _ _ _ _ _ _ _ _ hB hO _ hi hx h0 hX ha => ⟨fun _ hg => gSame1 h0 hi (ghKill hB hO hx h0 hg), gRule hB hO hi hx h0 hX ha⟩, fun _ _ _ _ _ _ _ _ _ _ hB hO hG _ h => gHk hB hO hG h⟩
end GHRULE
