/-! SX: the ghost's rules hold -/
noncomputable section GHRULE
variable {T : Nat} {V : rdVt}
variable {σ : List Int} {B : sxB} {O : sxO} {G : sxG} {scr : Option (List Int32)} {H H' : mjH} {i j : Nat} {a b : sxV}
theorem gOne {g : Nat} (hB : sxBR T σ B) (h : (ghL T V) H g = some (.int 1)) : sxOR (sxVw (ghL T V) scr 579 H) σ [(579, (0, Int.ofNat g), sxOne1)] := by
  intro q hq
  rw [List.mem_singleton] at hq
  subst hq
  refine ⟨(g : Int), .int 1, ⟨0, hB.1.2, by simp⟩, by omega, ?_, ⟨1, rfl, 0, hB.1.2, by decide⟩⟩
  rw [show ((g : Int)).toNat = g by omega]
  dsimp only
  rw [gvG]
  exact h
theorem gNil {vw : Nat → Nat → Option Value} : sxOR vw σ [] := fun q hq => by cases hq
theorem gApp {vw : Nat → Nat → Option Value} {O1 O2 : sxO} (h1 : sxOR vw σ O1) (h2 : sxOR vw σ O2) : sxOR vw σ (O1 ++ O2) := fun q hq => by
  rcases List.mem_append.mp hq with hq | hq
  · exact h1 q hq
  · exact h2 q hq
theorem gNum1 {y : sxN} {x : Int32} {g : Nat} (h : (ghL T V) H g = some (.int x)) (hB : sxBR T σ B) (hy : sxNR σ y x.toInt) : sxOR (sxVw (ghL T V) scr 579 H) σ [(579, (0, Int.ofNat g), .inr (false, (y.1, y.2)))] := by
  intro q hq
  rw [List.mem_singleton] at hq
  subst hq
  refine ⟨(g : Int), .int x, ⟨0, hB.1.2, by simp⟩, by omega, ?_, ⟨x, rfl, hy⟩⟩
  rw [show ((g : Int)).toNat = g by omega]
  dsimp only
  rw [gvG]
  exact h
theorem gNew4 {y : sxN} {z : Int} (hB : sxBR T σ B) (hy : sxNR σ y z) (hz : z = ghV H 78 4 - ghV H 78 28) : sxOR (sxVw (ghL T V) scr 579 H) σ (sxNew4 579 B y) := by
  unfold sxNew4
  split
  · rename_i r hr
    have h1 := sxRg_ok hB hr hy
    split
    · rename_i hm
      have hm := sxRm_ok hm
      simp only [sxM32] at hm
      rw [iFc_eq]
      obtain ⟨x, e1, e2⟩ := ghL4_of (H := H) (z := z) ⟨hz, by omega, by omega⟩
      exact gNum1 (g := 4) e1 hB (by rw [e2]; exact hy)
    · exact gNil
  · exact gNil
theorem gNewA {w : Value} (hB : sxBR T σ B) (hO : sxOR (sxVw (ghL T V) scr 579 H) σ O) (ha : sxVR σ a w) (hw : ∀ x : Int32, w = .int x → ghV H' 78 4 = x.toInt) (hc : ghV H' 78 28 = ghV H 78 28) : sxOR (sxVw (ghL T V) scr 579 H') σ (sxNewA 579 B O a) := by
  unfold sxNewA
  split
  · rename_i s hs
    split
    · rename_i u hu
      split
      · rename_i v
        split
        · rename_i hb
          have hb := beqOk hb
          obtain ⟨x, rfl, hx⟩ := ha
          obtain ⟨vs, s1, s2⟩ := gOl (j := 4) hB hO hs
          rw [gvG] at s1
          obtain ⟨xs, rfl, s3⟩ := ghL4 s1
          obtain ⟨xs', e, s4⟩ := s2
          cases e
          have u1 := sxNm_ok hB (gOI (j := 4) (by omega) hB hO hu)
          have v1 := sxNm_ok hB hx
          obtain ⟨U, f1, f2⟩ := u1
          obtain ⟨V, f3, f4⟩ := v1
          rw [hb] at f1
          cases Option.some.inj (f1.symm.trans f3)
          obtain ⟨S, f5, f6⟩ := s4
          refine gNew4 (z := S + (s.2 + ((sxNm B v).2 - (sxNm B u).2))) hB ⟨S, f5, rfl⟩ ?_
          rw [hw x rfl, hc]
          omega
        · exact gNil
      · exact gNil
    · exact gNil
  · exact gNil
theorem gNewC {m : Nat} (hB : sxBR T σ B) (hO : sxOR (sxVw (ghL T V) scr 579 H) σ O) (hw : ghV H' 78 28 = m) (hc : ghV H' 78 4 = ghV H 78 4) : sxOR (sxVw (ghL T V) scr 579 H') σ (sxNewC 579 B O m) := by
  unfold sxNewC
  split
  · rename_i s hs
    split
    · rename_i u hu
      obtain ⟨vs, s1, s2⟩ := gOl (j := 4) hB hO hs
      rw [gvG] at s1
      obtain ⟨xs, rfl, s3⟩ := ghL4 s1
      obtain ⟨xs', e, s4⟩ := s2
      cases e
      have u1 := gNumV (by omega) hB hO hu
      obtain ⟨S, f5, f6⟩ := s4
      refine gNew4 (z := S + (s.2 - (Int.ofNat m - u))) hB ⟨S, f5, rfl⟩ ?_
      rw [hw, hc]
      simp only [Int.ofNat_eq_natCast]
      omega
    · exact gNil
  · split
    · rename_i u hu
      obtain ⟨S, f5, f6⟩ := gOI (j := 4) (by omega) hB hO hu
      refine gNew4 (z := S + (u.2 - Int.ofNat m)) hB ⟨S, f5, rfl⟩ ?_
      rw [hw, hc]
      simp only [Int.ofNat_eq_natCast]
      omega
    · exact gNil
theorem gStp {w h x y : sxN} {rw' rh : Int × Int} {W : Int} {h0 : Nat} (hB : sxBR T σ B) (hw : rw'.1 ≤ W ∧ W ≤ rw'.2) (hh : rh.1 ≤ (h0 : Int) ∧ (h0 : Int) ≤ rh.2) (hx : sxNR σ x h0) (h : sxStp1 rw' rh x = some y) : ∃ k, ghS W h0 = some k ∧ sxNR σ y k := by
  obtain ⟨X, f1, f2⟩ := hx
  unfold sxStp1 at h
  split at h
  · rename_i c
    have c := iLe_ok c
    split at h
    · cases h
      exact ⟨h0 + 1, by unfold ghS; rw [if_pos (by omega)], X, f1, by dsimp only; omega⟩
    · cases h
  · rename_i c
    have c := iLe_no c
    split at h
    · rename_i c2
      have c2 := iLe_no c2
      split at h
      · rename_i c3
        have c3 := iLe_ok c3
        split at h
        · rename_i c4
          have c4 := iLe_ok c4
          split at h
          · rename_i c5
            have c5 := iLe_ok c5
            cases h
            exact ⟨h0 - 1, by unfold ghS; rw [if_neg (by omega), if_neg (by omega), if_pos (by omega)], X, f1, by dsimp only; omega⟩
          · cases h
        · cases h
      · cases h
    · rename_i c2
      have c2 := iLe_ok c2
      split at h
      · rename_i c3
        have c3 := iLe_ok c3
        split at h
        · rename_i c4
          have c4 := iLe_ok c4
          cases h
          exact ⟨h0, by unfold ghS; rw [if_neg (by omega), if_pos (by omega), if_pos (by omega)], X, f1, by omega⟩
        · cases h
      · split at h
        · rename_i c4
          have c4 := iLe_ok c4
          split at h
          · rename_i c5
            have c5 := iLe_ok c5
            cases h
            exact ⟨h0 - 1, by unfold ghS; rw [if_neg (by omega), if_neg (by omega), if_pos (by omega)], X, f1, by dsimp only; omega⟩
          · cases h
        · cases h
theorem gNewH {c : Nat} (hB : sxBR T σ B) (hO : sxOR (sxVw (ghL T V) scr 579 H) σ O) (hc : ghV H 78 28 = c) (hc2 : c < 220) (hw : ghV H' 78 28 = ((c + 1 : Nat) : Int)) (h26 : ghV H' 78 26 = ghV H 78 26) (hrow : ∀ k q, 107 ≤ k → ghV H' k q = ghV H k q) : sxOR (sxVw (ghL T V) scr 579 H') σ (sxNewH 579 B O c) := by
  unfold sxNewH
  split
  · rename_i h hh
    split
    · rename_i w hw1
      split
      · rename_i rh hrh
        split
        · rename_i rw' hrw
          split
          · rename_i y hy
            rw [iFc_eq]
            obtain ⟨v, s1, s2⟩ := gOl (j := 0) hB hO hh
            rw [gvG] at s1
            obtain ⟨h0, p0, x, rfl, s3⟩ := ghL0 s1
            obtain ⟨x', e, s4⟩ := s2
            cases e
            rw [s3] at s4
            have w1 := gOI (j := 0) (by omega) hB hO hw1
            obtain ⟨k, k1, k2⟩ := gStp (w := w) (h := h) hB (sxRg_ok hB hrw w1) (sxRg_ok hB hrh s4) s4 hy
            have p1 : ghP0 H' k := by
              obtain ⟨a, b, r, ha, hb, h1, h2, h3, h4⟩ := p0
              refine ⟨a, b + 1, by rw [h26]; exact r, by rw [h26, hrow _ _ (by omega)]; exact ha, by rw [hw]; omega, h1, by omega, by omega, ?_⟩
              rw [show (b + 1 - a).toNat = (b - a).toNat + 1 by omega]
              unfold ghH
              rw [ghH_congr (c := ghRc H') (d := ghRc H) (fun q q1 q2 => hrow (339 + q) 0 (by omega)), h4]
              show ghS (ghRc H' (a.toNat + (b - a).toNat)) h0 = some k
              rw [show a.toNat + (b - a).toNat = c by omega, ← k1]
              unfold ghRc
              rw [hrow _ _ (by omega)]
            obtain ⟨z, z1, z2⟩ := ghL0_of p1
            exact gNum1 (g := 0) z1 hB (by rw [z2]; exact k2)
          · exact gNil
        · exact gNil
      · exact gNil
    · exact gNil
  · exact gNil
theorem gNewI (t : Bool) (hB : sxBR T σ B) (h : t = true → (ghL T V) H 1 = some (.int 1)) : sxOR (sxVw (ghL T V) scr 579 H) σ (sxNew1 579 t) := by
  unfold sxNew1
  split
  · exact gOne hB (h rfl)
  · exact gNil
theorem gRule {t : Nat} {vs : List Value} {x : sxN} {X : Int} {w : Value} (hB : sxBR T σ B) (hO : sxOR (sxVw (ghL T V) scr 579 H) σ O) (hi : H[i]? = some (t, vs)) (hx : sxNR σ x X) (h0 : 0 ≤ X) (hX : X.toNat < vs.length) (ha : sxVR σ a w) : sxOR (sxVw (ghL T V) scr 579 (H.set i (t, vs.set X.toNat w))) σ (sxNewG0 579 B O i x a) := by
  unfold sxNewG0
  split
  · exact gNil
  rename_i ci
  have ci := beqOk ci
  subst ci
  split
  · rename_i j
    have hXj := sxN0 hB hx
    have hXj : X.toNat = j := by simp only [Int.ofNat_eq_natCast] at hXj; omega
    rw [hXj] at hX ⊢
    have V : ∀ {p q : Nat}, ¬ (p = 78 ∧ q = j) → ghV (H.set 78 (t, vs.set j w)) p q = ghV H p q := fun h => gSetV hi h
    have W : ∀ z : Int32, w = .int z → ghV (H.set 78 (t, vs.set j w)) 78 j = z.toInt := by
      intro z hz
      unfold ghV
      rw [gSetS hi hX, hz]
    have WN : ∀ {m : sxN} {n : Nat}, a = .inr (false, m) → sxNm B m = (0, Int.ofNat n) → ghV (H.set 78 (t, vs.set j w)) 78 j = (n : Int) := by
      intro m n e1 e2
      subst e1
      obtain ⟨z, e3, hz⟩ := ha
      have hz := sxNm_ok hB hz
      rw [e2] at hz
      have := sxN0 hB hz
      rw [W z e3, this]
      rfl
    split
    · rename_i cj
      have cj := beqOk cj
      subst cj
      split
      · rename_i m
        split
        · rename_i n hn
          have hwn := WN rfl hn
          refine gApp (gNewC hB hO hwn (V (by omega))) ?_
          split
          · rename_i hl
            have hl := gLim hB hO hl
            refine gNewI _ hB (fun _ => ghB_of fun k k1 k2 => ?_)
            rw [V (by omega)] at k2
            omega
          · split
            · rename_i c hc
              have hc := gNumV (by omega) hB hO hc
              split
              · rename_i hm
                have hm := beqOk hm
                subst hm
                split
                · rename_i hlt
                  have hlt := bltOk hlt
                  refine gApp (gNewH hB hO hc hlt hwn (V (by omega)) (fun k q hk => V (by omega))) (gNewI _ hB fun h1 => ?_)
                  obtain ⟨v, hv⟩ := gIs1 hB hO h1
                  obtain ⟨hp, -⟩ := ghB_iff hv
                  refine ghB_of fun k k1 k2 => ?_
                  rw [V (by omega)] at k2
                  have := hp k k1 k2
                  rw [V (p := 107 + k) (by omega), V (p := 107 + k) (by omega), hwn]
                  refine ⟨(ghOk_congr fun q q1 q2 => V (p := 339 + q) (by omega)).mpr this.1, ?_⟩
                  have := this.2
                  simp only [Int.ofNat_eq_natCast] at hc
                  omega
                · exact gNil
              · exact gNil
            · exact gNil
        · exact gNil
      · exact gNil
    · split
      · rename_i cj
        have cj := beqOk cj
        subst cj
        split
        · rename_i m
          split
          · rename_i n hn
            have hwn := WN rfl hn
            split
            · rename_i r hr
              have hr := gNumV (by omega) hB hO hr
              simp only [Int.ofNat_eq_natCast] at hr
              split
              · rename_i hm
                have hm := beqOk hm
                subst hm
                refine gNewI _ hB fun h1 => ?_
                unfold sxRowOk at h1
                split at h1
                · rename_i h hh
                  split at h1
                  · rename_i a1 ha1
                    split at h1
                    · rename_i b1 hb1
                      split at h1
                      · rename_i hsame
                        obtain ⟨v, hv⟩ := gIs1 hB hO h1
                        obtain ⟨hp, -⟩ := ghB_iff hv
                        obtain ⟨u, s1, s2⟩ := gOl (j := 0) hB hO hh
                        rw [gvG] at s1
                        obtain ⟨h0, ⟨a2, b2, r2, ha2, hb2, q1, q2, q3, q4⟩, -⟩ := ghL0 s1
                        obtain ⟨v1, y1, y2⟩ := gOl (j := 2) hB hO ha1
                        obtain ⟨v2, y3, y4⟩ := gOl (j := 28) hB hO hb1
                        obtain ⟨e, z, ez⟩ := gSame hB hsame y2 y4
                        subst e
                        subst ez
                        rw [gvE (by omega)] at y1
                        rw [gvE (by omega)] at y3
                        have e1 : ghV H (107 + r) 2 = ghV H 78 28 := by
                          unfold ghV
                          rw [y1, y3]
                        refine ghB_of fun k k1 k2 => ?_
                        rw [hwn] at k2
                        rw [V (p := 107 + k) (by omega), V (p := 107 + k) (by omega), V (p := 78) (q := 28) (by omega)]
                        by_cases hk : (k : Int) < r
                        · have := hp k k1 (by omega)
                          exact ⟨(ghOk_congr fun q q1 q2 => V (p := 339 + q) (by omega)).mpr this.1, this.2⟩
                        · have hkr : k = r := by omega
                          subst hkr
                          rw [hr, show ((k : Int)).toNat = k by omega] at ha2
                          rw [e1, ← ha2, ← hb2]
                          exact ⟨(ghOk_congr fun q q1 q2 => V (p := 339 + q) (by omega)).mpr ⟨q1, q2, q3, h0, q4⟩, Int.le_refl _⟩
                      · cases h1
                    · cases h1
                  · cases h1
                · cases h1
              · exact gNil
            · exact gNil
          · exact gNil
        · exact gNil
      · split
        · rename_i cj
          have cj := beqOk cj
          subst cj
          exact gNewA hB hO ha W (V (by omega))
        · exact gNil
  · exact gNil
theorem gOE {x : sxN} {z : Int} {v : Value} {k : Nat} (hk : k < 579) (h1 : sxVw (ghL T V) scr 579 H k z.toNat = some v) : sxEl H k z.toNat = some v := by
  rw [gvE hk] at h1
  exact h1
theorem gRdO {f5 f6 : Bool} (h5 : f5 = true → ghP5 T H) (h6 : f6 = true → ghP6 T H) : ∀ {O : sxO} {B : sxB}, sxOR (sxVw (ghL T V) scr 579 H) σ O → sxBR T σ B → sxBR T σ (sxRdO f5 f6 O B)
  | [], _, _, hB => hB
  | q :: r, B, hO, hB => by
    have hr : sxOR (sxVw (ghL T V) scr 579 H) σ r := fun q hq => hO q (List.mem_cons_of_mem _ hq)
    obtain ⟨z, w, z1, z2, z3, z4⟩ := hO q List.mem_cons_self
    rw [sxRdO_c]
    split
    · rename_i v hv
      rw [hv] at z4
      obtain ⟨x, rfl, hx⟩ := z4
      split
      · rename_i c
        have c := beqOk c
        rw [c] at z3
        rw [gvE (by omega)] at z3
        split
        · refine gRdO h5 h6 hr (sxRdT_ok hB z1 hx fun a1 a2 => ?_)
          obtain ⟨y, y1, y2, y3⟩ := h5 rfl z.toNat (by omega)
          rw [z3] at y1
          cases y1
          rw [show ((z.toNat : Nat) : Int) = z by omega] at y3
          exact ⟨by omega, by omega, y3⟩
        · exact gRdO h5 h6 hr hB
      · split
        · rename_i c
          have c := beqOk c
          rw [c] at z3
          rw [gvE (by omega)] at z3
          split
          · refine gRdO h5 h6 hr (sxRdT_ok hB z1 hx fun a1 a2 => ?_)
            obtain ⟨y, y1, y2, y3⟩ := h6 rfl z.toNat (by omega)
            rw [z3] at y1
            cases y1
            rw [show ((z.toNat : Nat) : Int) = z by omega] at y3
            exact ⟨by omega, by omega, by rw [y3, if_neg (by omega)]⟩
          · exact gRdO h5 h6 hr hB
        · exact gRdO h5 h6 hr hB
    · exact gRdO h5 h6 hr hB
theorem gRul (hB : sxBR T σ B) (hO : sxOR (sxVw (ghL T V) scr 579 H) σ O) : sxBR T σ (sxRul 579 B O) := by
  have key : sxBR T σ (sxRdO (sxIs1 B O 579 5) (sxIs1 B O 579 6) O B) := ?_
  · exact sxPss_ok (sxPa_ok key.2.2.2.1 key)
  refine gRdO (H := H) (scr := scr) (fun e => ?_) (fun e => ?_) hO hB
  · obtain ⟨v, hv⟩ := gIs1 hB hO e
    exact (ghB_iff hv).1
  · obtain ⟨v, hv⟩ := gIs1 hB hO e
    exact (ghB_iff hv).1
theorem gHk {B' : sxB} {O' : sxO} {G' : sxG} (hB : sxBR T σ B) (hO : sxOR (sxVw (ghL T V) scr 579 H) σ O) (hG : sxGR (sxVw (ghL T V) scr 579 H) σ G) (h : sxHk0 579 j B O G = some (B', O', G')) : sxBR T σ B' ∧ sxOR (sxVw (ghL T V) scr 579 H) σ O' ∧ sxGR (sxVw (ghL T V) scr 579 H) σ G' := by
  have one : ∀ {g : Nat}, (ghL T V) H g = some (.int 1) → sxOR (sxVw (ghL T V) scr 579 H) σ ((579, (0, Int.ofNat g), sxOne1) :: O) := fun hg => gApp (O1 := [_]) (gOne hB hg) hO
  unfold sxHk0 at h
  split at h
  · split at h
    · rename_i r hr
      have hr := gNumV (by omega) hB hO hr
      simp only [Int.ofNat_eq_natCast] at hr
      split at h
      · rename_i a1 ha1
        split at h
        · rename_i b1 hb1
          split at h
          · rename_i hsame
            split at h
            · rename_i hv
              split at h
              · rename_i hlt
                have hlt := bltOk hlt
                cases h
                obtain ⟨v1, y1, y2⟩ := gOl (j := 1) hB hO ha1
                obtain ⟨v2, y3, y4⟩ := gOl (j := 28) hB hO hb1
                obtain ⟨e, z, ez⟩ := gSame hB hsame y2 y4
                subst e
                subst ez
                obtain ⟨z', ez, z1, z2⟩ := sxVle_ok hB hv y4
                cases ez
                rw [gvE (by omega)] at y1
                rw [gvE (by omega)] at y3
                have e1 : ghV H (107 + r) 1 = z.toInt := by unfold ghV; rw [y1]
                have e2 : ghV H 78 28 = z.toInt := by unfold ghV; rw [y3]
                have p : ghP0 H 0 := ⟨z.toInt, z.toInt, by rw [hr]; omega, by rw [hr, show ((r : Int)).toNat = r by omega, e1], e2.symm, z1, Int.le_refl _, z2, by rw [show (z.toInt - z.toInt).toNat = 0 by omega]; rfl⟩
                obtain ⟨q, q1, q2⟩ := ghL0_of p
                exact ⟨hB, gApp (O1 := [_]) (gNum1 (y := (0, 0)) (g := 0) q1 hB ⟨0, hB.1.2, by rw [q2]; rfl⟩) hO, hG⟩
              · cases h
            · cases h
          · cases h
        · cases h
      · cases h
    · cases h
  · split at h
    · rename_i v hv
      have hv := gNumV (by omega) hB hO hv
      split at h
      · rename_i e
        have e := iEq_ok e
        cases h
        exact ⟨hB, one (g := 1) (ghB_of fun k k1 k2 => by omega), hG⟩
      · cases h
    · cases h
  · split at h
    · rename_i v hv
      have hv := gNumV (by omega) hB hO hv
      split at h
      · rename_i e
        have e := iEq_ok e
        cases h
        exact ⟨hB, one (g := 2) (ghB_of fun k k1 k2 => by omega), hG⟩
      · cases h
    · cases h
  · split at h
    · rename_i u hu
      have hu := gOI (j := 0) (by omega) hB hO hu
      split at h
      · rename_i q hq
        have hq := sxRg_ok hB hq hu
        split at h
        · rename_i e
          have e := iLe_ok e
          cases h
          exact ⟨hB, one (g := 3) (ghB_of fun l => by omega), hG⟩
        · split at h
          · rename_i m hm
            have hm := gOI (j := 1) (by omega) hB hO hm
            split at h
            · rename_i hle
              have := sxLe_ok hB hle hm ⟨0, hB.1.2, by simp⟩ (Y := 0)
              cases h
              exact ⟨hB, one (g := 3) (ghB_of fun l k v hk hv => by omega), hG⟩
            split at h
            · rename_i hany
              cases h
              refine ⟨hB, one (g := 3) (ghB_of fun l k v hk hv => ?_), hG⟩
              obtain ⟨g, g1, g2⟩ := List.any_eq_true.mp hany
              split at g2
              · rename_i e1
                have e1 := beqOk e1
                split at g2
                · rename_i e2
                  obtain ⟨z, z1, z2⟩ := hG g g1
                  have := sxLe_ok hB e2 hm z1
                  have hs := z2 k v (by omega) (by rw [e1, gvE (by omega)]; exact hv)
                  unfold sxPl0 at g2
                  split at g2
                  · rename_i lo hi hp
                    rw [hp] at hs
                    split at g2
                    · rename_i e3
                      have e3 := iLe_ok e3
                      have e4 := iLe_ok g2
                      obtain ⟨x, rfl, x1, x2⟩ := hs
                      exact ⟨x, rfl, by omega, by omega⟩
                    · cases g2
                  · cases g2
                · cases g2
              · cases g2
            · cases h
          · cases h
      · cases h
    · cases h
  · split at h
    · rename_i y hy
      cases h
      obtain ⟨v, s1, s2⟩ := gOl (j := 0) hB hO hy
      rw [gvG] at s1
      obtain ⟨h0, p0, x, rfl, s3⟩ := ghL0 s1
      obtain ⟨x', e, s4⟩ := s2
      cases e
      have := ghP0_le p0
      exact ⟨sxAsm_ok (Y := 220) hB s4 ⟨0, hB.1.2, by simp⟩ (by omega), hO, hG⟩
    · cases h
  · split at h
    · rename_i t ht
      split at h
      · rename_i m hm
        split at h
        · rename_i h1
          split at h
          · rename_i q hq
            split at h
            · rename_i e
              have e := iLe_ok e
              cases h
              have ht := sxRg_ok hB hq (gOI (j := 0) (by omega) hB hO ht)
              have hm := gOI (j := 1) (by omega) hB hO hm
              obtain ⟨v, hv⟩ := gIs1 hB hO h1
              obtain ⟨hp, -⟩ := ghB_iff hv
              refine ⟨hB, hO, fun q hq => ?_⟩
              rcases List.mem_cons.mp hq with rfl | hq
              · refine ⟨_, hm, fun j v hj hv => ?_⟩
                rw [gvE (by dsimp only; omega)] at hv
                obtain ⟨x, rfl, x1, x2⟩ := hp (by omega) j v hj hv
                exact ⟨x, rfl, x1, x2⟩
              · exact hG q hq
            · cases h
          · cases h
        · cases h
      · cases h
    · cases h
  · cases h
    exact ⟨gRul hB hO, hO, hG⟩
  · split at h
    · rename_i s hs
      split at h
      · rename_i u hu
        split at h
        · rename_i c hc
          split at h
          · rename_i r hr
            cases h
            obtain ⟨v, s1, s2⟩ := gOl (j := 4) hB hO hs
            rw [gvG] at s1
            obtain ⟨x, rfl, s3⟩ := ghL4 s1
            obtain ⟨x', e, s4⟩ := s2
            cases e
            have hr := sxRg_ok hB hr s4
            exact ⟨sxAsm_ok hB (gOI (j := 28) (by omega) hB hO hc) (gOI (j := 4) (by omega) hB hO hu) (by omega), hO, hG⟩
          · cases h
        · cases h
      · cases h
    · cases h
/-- what an entry holds as a number -/
theorem rwEl_of {k i j : Nat} {w : sxN} {kd : Bool} {v : Value} (hi : i < 579) (h : sxVw (ghL T V) scr 579 H i j = some v) (hv : sxVR σ (.inr (kd, w)) v) : ∃ z, rwEl H i j = some z ∧ sxNR σ w z := by
  rw [gvE hi] at h
  cases kd with
  | false =>
    obtain ⟨x, rfl, hx⟩ := hv
    exact ⟨x.toInt, by unfold rwEl; rw [h], hx⟩
  | true =>
    obtain ⟨x, rfl, hx⟩ := hv
    exact ⟨x.toInt, by unfold rwEl; rw [h], hx⟩
theorem rwOl {i : Nat} {x w : sxN} {kd : Bool} {X : Int} (hi : i < 579) (hO : sxOR (sxVw (ghL T V) scr 579 H) σ O) (hx : sxNR σ x X) (h : sxOl O i x = some (.inr (kd, w))) : 0 ≤ X ∧ ∃ z, rwEl H i X.toNat = some z ∧ sxNR σ w z := by
  obtain ⟨z, v, z1, z2, z3, z4⟩ := hO _ (sxOl_mem h)
  have e := sxNR.un hx z1
  subst e
  exact ⟨z2, rwEl_of (k := 0) hi z3 z4⟩
theorem rwRow_ok {r : rwR} {o w : sxN} {X : Int} (hi : r.2.2.1.1 < 579) (hB : sxBR T σ B) (hO : sxOR (sxVw (ghL T V) scr 579 H) σ O) (ho : sxNR σ o X) (h : rwRow B O r o = some w) : ∃ z, rwEl H r.2.2.1.1 (X + r.2.2.1.2).toNat = some z ∧ sxNR σ w z := by
  unfold rwRow at h
  split at h
  · rename_i kd w1 h1
    cases h
    exact (rwOl hi hO (sxNR.off ho _) h1).2
  · cases h
  · split at h
    · rename_i kd w1 h1
      cases h
      exact (rwOl hi hO (sxNR.off (sxNm_ok hB ho) _) h1).2
    · cases h
/-- what the ghost says of an indicator -/
theorem rwOlG {r : rwR} {e : sxN} (hr : r ∈ rwTab) (hB : sxBR T σ B) (hO : sxOR (sxVw (ghL T V) scr 579 H) σ O) (h : sxOl O 579 (0, Int.ofNat r.1) = some (.inr (false, e))) : sxNR σ e (rwB (rwP T r H)).toInt := by
  obtain ⟨v, h1, x, rfl, h2⟩ := gOl hB hO h
  rw [gvG, ghL_r hr] at h1
  cases h1
  exact h2
theorem rwIs1 {r : rwR} (hr : r ∈ rwTab) (hB : sxBR T σ B) (hO : sxOR (sxVw (ghL T V) scr 579 H) σ O) (h : sxIs1 B O 579 r.1 = true) : rwP T r H := by
  unfold sxIs1 at h
  split at h
  · rename_i v hv
    obtain ⟨x, h1, h2⟩ := gNum hB hO hv
    rw [gvG, ghL_r hr] at h1
    cases h1
    rw [iEq_ok h] at h2
    exact rwB_iff h2
  · cases h
theorem rwOne {r : rwR} (hr : r ∈ rwTab) (h0 : σ[0]? = some 0) (hB : sxBR T σ B) (h : rwP T r H) : sxOR (sxVw (ghL T V) scr 579 H) σ [(579, (0, Int.ofNat r.1), sxOne1)] :=
  gOne hB (by rw [ghL_r hr, rwB_1 h])
theorem rwSt {r : rwR} {a : Int} {z : Option Int} {H' : mjH} (h0 : 0 ≤ a ∧ a ≤ Int.ofNat r.2.2.2.2 - 1) (hc : ghV H r.2.1.1 r.2.1.2 = a) (hc' : ghV H' r.2.1.1 r.2.1.2 = a + 1) (hel : ∀ k : Nat, rwEl H' r.2.2.1.1 (r.2.2.1.2 + k) = rwEl H r.2.2.1.1 (r.2.2.1.2 + k)) : rwP T r H' ↔ rwP T r H ∧ rwEl H r.2.2.1.1 (a + r.2.2.1.2).toNat = some (sxSem T r.2.2.2.1 a 0) := by
  have ea : (a + (r.2.2.1.2 : Int)).toNat = r.2.2.1.2 + a.toNat := by omega
  have ea2 : ((a.toNat : Nat) : Int) = a := by omega
  have h1 : a.toNat < r.2.2.2.2 := by
    have := h0.2
    simp only [Int.ofNat_eq_natCast] at this
    omega
  unfold rwP
  rw [hc, hc', ea]
  constructor
  · intro h
    refine ⟨fun k k1 k2 => by rw [← hel]; exact h k k1 (by omega), ?_⟩
    have := h a.toNat h1 (by omega)
    rw [hel, ea2] at this
    exact this
  · rintro ⟨h1, h2⟩ k k1 k2
    rw [hel]
    by_cases e : (k : Int) < a
    · exact h1 k k1 e
    · have e2 : k = a.toNat := by omega
      subst e2
      rw [ea2]
      exact h2
theorem rwNew1_ok {t : Nat} {vs : List Value} {m : sxN} {w : Value} {r : rwR} (hr : r ∈ rwTab) (hB : sxBR T σ B) (hO : sxOR (sxVw (ghL T V) scr 579 H) σ O) (hi : H[r.2.1.1]? = some (t, vs)) (hX : r.2.1.2 < vs.length) (ha : sxVR σ (.inr (false, m)) w) : sxOR (sxVw (ghL T V) scr 579 (H.set r.2.1.1 (t, vs.set r.2.1.2 w))) σ (rwNew1 579 B O m r) := by
  obtain ⟨-, -, ⟨c1, c2⟩, hne, -, -⟩ := rwGet_of hr
  obtain ⟨x, rfl, hx⟩ := ha
  have hx' := sxNm_ok hB hx
  have hc' : ghV (H.set r.2.1.1 (t, vs.set r.2.1.2 (.int x))) r.2.1.1 r.2.1.2 = x.toInt := by
    unfold ghV
    rw [gSetS hi hX]
  have hel : ∀ k : Nat, rwEl (H.set r.2.1.1 (t, vs.set r.2.1.2 (.int x))) r.2.2.1.1 (r.2.2.1.2 + k) = rwEl H r.2.2.1.1 (r.2.2.1.2 + k) := by
    intro k
    unfold rwEl
    rw [gSet hi (fun hc => hne hc.1)]
  unfold rwNew1
  split
  · rename_i e
    rw [sxSame_ok e] at hx'
    have := sxN0 hB hx'
    refine rwOne hr hB.1.2 hB fun k k1 k2 => ?_
    rw [hc'] at k2
    omega
  split
  · rename_i o ho
    have ho1 := gOI c1 hB hO ho
    have ho2 := sxNm_ok hB ho1
    split
    · exact gNil
    rename_i e1
    split
    · exact gNil
    rename_i e2
    have e2 := sxBtw_ok hB e2 ho1
    split
    · rename_i e he
      have he := rwOlG hr hB hO he
      split
      · exact gNil
      rename_i w1 hw1
      obtain ⟨wz, w2, w3⟩ := rwRow_ok c2 hB hO ho1 hw1
      split
      · exact gNil
      rename_i u hu
      have hu := sxG1_ok hB hu ho1
      split
      · exact gNil
      rename_i q hq
      have hq := sxFl_ok hB hq hB.2.2.2.2 (sxNm_ok hB w3) (sxNm_ok hB hu)
      split
      · rename_i z hz
        have hz := sxFl_ok hB hz hB.2.2.2.2 (sxNm_ok hB he) (sxNm_ok hB hq)
        rw [sxSame_ok e1] at hx'
        have ex : x.toInt = ghV H r.2.1.1 r.2.1.2 + 1 := sxNR.un hx' (sxNR.off ho2 1)
        have hst := rwSt (T := T) (z := none) e2 rfl (hc'.trans ex) hel
        have key : (rwB (rwP T r (H.set r.2.1.1 (t, vs.set r.2.1.2 (.int x))))).toInt = sxSem T 25 (rwB (rwP T r H)).toInt (sxSem T 24 wz (sxSem T r.2.2.2.1 (ghV H r.2.1.1 r.2.1.2) 0)) := by
          rw [rwB_congr hst, w2]
          show _ = if (rwB (rwP T r H)).toInt = 1 ∧ (if wz = sxSem T r.2.2.2.1 (ghV H r.2.1.1 r.2.1.2) 0 then (1 : Int) else 0) = 1 then 1 else 0
          rcases rwB_01 (rwP T r H) with ⟨a1, a2⟩ | ⟨a1, a2⟩
          · by_cases a3 : wz = sxSem T r.2.2.2.1 (ghV H r.2.1.1 r.2.1.2) 0
            · rw [rwB_1 ⟨a2, by rw [a3]⟩, if_pos ⟨a1, by rw [if_pos a3]⟩]
              rfl
            · rw [rwB_0 (fun h => a3 (Option.some.inj h.2)), if_neg (fun h => by have := h.2; rw [if_neg a3] at this; omega)]
              rfl
          · rw [rwB_0 (fun h => a2 h.1), if_neg (fun h => by have := h.1; omega)]
            rfl
        refine gNum1 (g := r.1) (x := rwB (rwP T r (H.set r.2.1.1 (t, vs.set r.2.1.2 (.int x))))) (y := z) (ghL_r hr) hB ?_
        rw [key]
        exact hz
      · exact gNil
    · exact gNil
  · exact gNil
theorem rwNewL_ok {t i j : Nat} {vs : List Value} {m : sxN} {w : Value} (hB : sxBR T σ B) (hO : sxOR (sxVw (ghL T V) scr 579 H) σ O) (hi : H[i]? = some (t, vs)) (hX : j < vs.length) (ha : sxVR σ (.inr (false, m)) w) : ∀ {l : List rwR}, (∀ r ∈ l, r ∈ rwTab) → sxOR (sxVw (ghL T V) scr 579 (H.set i (t, vs.set j w))) σ (rwNewL 579 B O i j m l)
  | [], _ => gNil
  | r :: l, h => by
    have ih := rwNewL_ok hB hO hi hX ha (l := l) (fun r hr => h r (List.mem_cons_of_mem _ hr))
    rw [rwNewL_c]
    split
    · rename_i e
      rw [Bool.and_eq_true] at e
      have e1 := Nat.eq_of_beq_eq_true e.1
      have e2 := Nat.eq_of_beq_eq_true e.2
      refine gApp ?_ ih
      subst e1 e2
      exact rwNew1_ok (h r List.mem_cons_self) hB hO hi hX ha
    · exact ih
theorem rwAg_iff {g : Nat} (h : rwAg i = g + 1) : (i = 3 ∧ g + 1 = 36) ∨ (i = 11 ∧ g + 1 = 44) := by
  unfold rwAg at h
  split at h
  · rename_i e
    exact Or.inl ⟨beqOk e, h.symm⟩
  · split at h
    · rename_i e
      exact Or.inr ⟨beqOk e, h.symm⟩
    · cases h
theorem ghL_A {k g : Nat} (hg : (k = 3 ∧ g = 36) ∨ (k = 11 ∧ g = 44)) : ghL T V H g = ghB (rwAp k H) := by
  rcases hg with ⟨rfl, rfl⟩ | ⟨rfl, rfl⟩ <;> rfl
theorem rwAn_ok {t j : Nat} {vs : List Value} {m : sxN} {w : Value} (hB : sxBR T σ B) (hO : sxOR (sxVw (ghL T V) scr 579 H) σ O) (hi : H[i]? = some (t, vs)) (hX : j < vs.length) (ha : sxVR σ (.inr (true, m)) w) : sxOR (sxVw (ghL T V) scr 579 (H.set i (t, vs.set j w))) σ (rwAn 579 B O i j m) := by
  obtain ⟨x, rfl, hx⟩ := ha
  unfold rwAn
  split
  · exact gNil
  rename_i e1
  have e1 := beqOk e1
  subst e1
  split
  · exact gNil
  rename_i g hg
  have hg := rwAg_iff hg
  split
  · rename_i a ha
    have ha1 := gOI (j := 0) (show i < 579 by rcases hg with ⟨rfl, -⟩ | ⟨rfl, -⟩ <;> decide) hB hO ha
    split
    · rename_i c hc
      have hc := sxCst_ok (T := T) hB hc (sxNm_ok hB ha1) (sxNR.c0 hB 0)
      split
      · rename_i e
        have hx' := sxNm_ok hB hx
        rw [sxSame_ok e] at hx'
        have hx' := sxN0 hB hx'
        refine gOne hB ((ghL_A hg).trans (ghB_of ?_))
        unfold rwAp
        rw [gSetV hi (fun hc => by have := hc.2; omega)]
        unfold rwEl
        rw [gSetS hi hX]
        refine congrArg some ?_
        have hc : tAll (ghV H i 0) = c := hc
        rw [hc]
        exact hx'
      · exact gNil
    · exact gNil
  · exact gNil
theorem rwAr_ok {k : Nat} (hk : k = 3 ∨ k = 11) (hB : sxBR T σ B) (hO : sxOR (sxVw (ghL T V) scr 579 H) σ O) : sxBR T σ (rwAr 579 B O k) := by
  unfold rwAr
  split
  · exact hB
  rename_i h1
  obtain ⟨v, hv⟩ := gIs1 hB hO h1
  have hg : (k = 3 ∧ rwAg k = 36) ∨ (k = 11 ∧ rwAg k = 44) := by rcases hk with rfl | rfl <;> first | exact Or.inl ⟨rfl, rfl⟩ | exact Or.inr ⟨rfl, rfl⟩
  rw [ghL_A hg] at hv
  have hp := (ghB_iff hv).1
  split
  · rename_i a ha
    have ha1 := gOI (j := 0) (show k < 579 by rcases hk with rfl | rfl <;> decide) hB hO ha
    split
    · rename_i l hl
      obtain ⟨-, z, y1, y2⟩ := rwOl (show k < 579 by rcases hk with rfl | rfl <;> decide) hO (sxNR.c0 hB _) hl
      refine sxPut_ok hB ha1 (sxNR.c0 hB 0) ?_
      have y1 : rwEl H k 1 = some z := y1
      unfold rwAp at hp
      rw [hp] at y1
      have e : sxSem T 51 (ghV H k 0) 0 = z := Option.some.inj y1
      rw [e]
      exact y2
    · exact hB
  · exact hB
theorem gRuleR {t : Nat} {vs : List Value} {x : sxN} {X : Int} {w : Value} (hB : sxBR T σ B) (hO : sxOR (sxVw (ghL T V) scr 579 H) σ O) (hi : H[i]? = some (t, vs)) (hx : sxNR σ x X) (h0 : 0 ≤ X) (hX : X.toNat < vs.length) (ha : sxVR σ a w) : sxOR (sxVw (ghL T V) scr 579 (H.set i (t, vs.set X.toNat w))) σ (rwNew 579 B O i x a) := by
  unfold rwNew
  split
  · exact gNil
  split
  · rename_i j
    have hXj := sxN0 hB hx
    have hXj : X.toNat = j := by simp only [Int.ofNat_eq_natCast] at hXj; omega
    rw [hXj] at hX ⊢
    split
    · exact rwNewL_ok hB hO hi hX ha (fun r hr => hr)
    · exact rwAn_ok hB hO hi hX ha
    · exact gNil
  · exact gNil
theorem rwFact_ok {o : Nat} {x y : sxN} {X Y : Int} (ho : sxTbR o = some (0, 1)) (hB : sxBR T σ B) (hx : sxNR σ x X) (hy : sxNR σ y Y) : ∃ σ', sxUp σ σ' ∧ sxBR T σ' (rwFact B o x y).1 ∧ sxNR σ' (rwFact B o x y).2 (sxSem T o X Y) := by
  unfold rwFact
  split
  · rename_i q hq
    exact ⟨σ, sxUp.rf, hB, sxFl_ok hB hq hB.2.2.2.2 (sxNm_ok hB hx) (sxNm_ok hB hy)⟩
  · obtain ⟨h1, h2⟩ := sxTbR_ok (T := T) X Y ho
    obtain ⟨σ', u, g1, g2⟩ := sxFr_ok hB h1 h2
    exact ⟨σ', u, sxFa_ok g1 (hx.up u) (hy.up u) g2, g2⟩
theorem rwInd_ok {g : Nat} {B' : sxB} (hB : sxBR T σ B) (hO : sxOR (sxVw (ghL T V) scr 579 H) σ O) (h : rwInd 579 B O g = some B') : ∃ σ', sxUp σ σ' ∧ sxBR T σ' B' := by
  unfold rwInd at h
  split at h
  · cases h
  rename_i r hr
  obtain ⟨hm, -⟩ := rwGet_mem hr
  obtain ⟨-, -, ⟨c1, c2⟩, -⟩ := rwGet_of hm
  split at h
  · rename_i o ho
    have ho1 := gOI c1 hB hO ho
    split at h
    · rename_i e he
      have he := rwOlG hm hB hO he
      split at h
      · cases h
      rename_i w1 hw1
      obtain ⟨wz, w2, w3⟩ := rwRow_ok c2 hB hO ho1 hw1
      split at h
      · cases h
      rename_i u hu
      have hu := sxG1_ok hB hu ho1
      cases h
      obtain ⟨σ1, u1, g1, g2⟩ := rwFact_ok (o := 24) rfl hB w3 hu
      obtain ⟨σ2, u2, g3, g4⟩ := rwFact_ok (o := 25) rfl g1 (he.up u1) g2
      exact ⟨σ2, u1.tr u2, g3⟩
    · cases h
  · cases h
theorem rwCopy_ok {g g' : Nat} {O' : sxO} (hB : sxBR T σ B) (hO : sxOR (sxVw (ghL T V) scr 579 H) σ O) (h : rwCopy 579 B O g g' = some O') : sxOR (sxVw (ghL T V) scr 579 H) σ O' := by
  unfold rwCopy at h
  split at h
  · cases h
  rename_i r hr
  obtain ⟨hm, -⟩ := rwGet_mem hr
  obtain ⟨-, -, ⟨c1, c2⟩, -⟩ := rwGet_of hm
  split at h
  · cases h
  rename_i s hs
  obtain ⟨hm', -⟩ := rwGet_mem hs
  obtain ⟨-, -, ⟨d1, d2⟩, -⟩ := rwGet_of hm'
  split at h
  · cases h
  rename_i hop
  rw [Bool.and_eq_true] at hop
  have hop2 := Nat.eq_of_beq_eq_true hop.2
  have hop := Nat.eq_of_beq_eq_true hop.1
  split at h
  · rename_i v hv
    have hv := gOI c1 hB hO hv
    split at h
    · rename_i v2 hv2
      have hv2 := gOI d1 hB hO hv2
      split at h
      · cases h
      rename_i e1
      split at h
      · rename_i e he
        split at h
        · rename_i hsm
          cases h
          have ec : ghV H r.2.1.1 r.2.1.2 = ghV H s.2.1.1 s.2.1.2 := by
            have h1 := sxNm_ok hB hv
            rw [sxSame_ok e1] at h1
            exact sxNR.un h1 (sxNm_ok hB hv2)
          have key : rwP T r H ↔ rwP T s H := by
            have hk : ∀ k : Nat, k < r.2.2.2.2 → (k : Int) < ghV H r.2.1.1 r.2.1.2 → rwEl H r.2.2.1.1 (r.2.2.1.2 + k) = rwEl H s.2.2.1.1 (s.2.2.1.2 + k) := by
              intro k k1 k2
              have hb := List.all_eq_true.mp hsm k (List.mem_range.mpr k1)
              split at hb
              · rename_i hle
                have := sxLe_ok hB hle hv (sxNR.c0 hB (Int.ofNat k))
                simp only [Int.ofNat_eq_natCast] at this
                omega
              · split at hb
                · rename_i t a ha
                  split at hb
                  · rename_i t2 b hb2
                    split at hb
                    · obtain ⟨-, z1, y1, y2⟩ := rwOl c2 hO (sxNR.c0 hB _) ha
                      obtain ⟨-, z2, y3, y4⟩ := rwOl d2 hO (sxNR.c0 hB _) hb2
                      have y2 := sxNm_ok hB y2
                      rw [sxSame_ok hb] at y2
                      have e := sxNR.un y2 (sxNm_ok hB y4)
                      rw [show (Int.ofNat (r.2.2.1.2 + k)).toNat = r.2.2.1.2 + k from rfl] at y1
                      rw [show (Int.ofNat (s.2.2.1.2 + k)).toNat = s.2.2.1.2 + k from rfl] at y3
                      rw [y1, y3, e]
                    · cases hb
                  · cases hb
                · cases hb
            unfold rwP
            rw [← ec, hop, ← hop2]
            exact ⟨fun h k k1 k2 => by rw [← hk k k1 k2]; exact h k k1 k2, fun h k k1 k2 => by rw [hk k k1 k2]; exact h k k1 k2⟩
          refine gApp (O1 := [_]) ?_ hO
          intro q hq
          rw [List.mem_singleton] at hq
          subst hq
          obtain ⟨v, a1, a2⟩ := gOl hB hO he
          rw [gvG, ghL_r hm', ← rwB_congr key, ← ghL_r (T := T) (V := V) hm, ← gvG (T := T) (V := V) (scr := scr) (H := H)] at a1
          exact ⟨(r.1 : Int), v, ⟨0, hB.1.2, by simp⟩, by omega, by rw [show ((r.1 : Int)).toNat = r.1 by omega]; exact a1, a2⟩
        · cases h
      · cases h
    · cases h
  · cases h
theorem rwRd1_ok {O0 : sxO} {q : Nat × sxN × sxV} {r : rwR} (hr : r ∈ rwTab) (hB : sxBR T σ B) (hO0 : sxOR (sxVw (ghL T V) scr 579 H) σ O0) (hq : ∃ (z : Int) (v : Value), sxNR σ q.2.1 z ∧ 0 ≤ z ∧ sxVw (ghL T V) scr 579 H q.1 z.toNat = some v ∧ sxVR σ q.2.2 v) : sxBR T σ (rwRd1 579 O0 B q r) := by
  obtain ⟨z, v, z1, z2, z3, z4⟩ := hq
  obtain ⟨-, -, ⟨c1, c2⟩, -⟩ := rwGet_of hr
  unfold rwRd1
  split
  · exact hB
  rename_i e
  have e := Nat.eq_of_beq_eq_true e
  rw [e] at z3
  split
  · exact hB
  rename_i kd w hw
  rw [hw] at z4
  obtain ⟨wz, w1, w2⟩ := rwEl_of (k := 0) c2 z3 z4
  split
  · exact hB
  rename_i h1
  have hp := rwIs1 hr hB hO0 h1
  split
  · rename_i v1 hv
    have hv := gOI c1 hB hO0 hv
    rw [iFc_eq]
    have hk : sxNR σ (q.2.1.1, q.2.1.2 - Int.ofNat r.2.2.1.2) (z - r.2.2.1.2) := by
      obtain ⟨y, y1, y2⟩ := z1
      exact ⟨y, y1, by simp only [Int.ofNat_eq_natCast]; omega⟩
    split
    · exact hB
    rename_i h2
    have h2 := sxLe_ok hB h2 (sxNR.c0 hB 0) hk
    split
    · exact hB
    rename_i h3
    have h3 := sxLe_ok hB h3 hk hv
    split
    · exact hB
    rename_i h4
    have h4 := sxBtw_ok hB h4 hv
    refine sxPut_ok hB hk (sxNR.c0 hB 0) ?_
    have := hp (z - r.2.2.1.2).toNat (by have := h4.2; simp only [Int.ofNat_eq_natCast] at this; omega) (by omega)
    rw [show r.2.2.1.2 + (z - r.2.2.1.2).toNat = z.toNat by omega, w1, show (((z - r.2.2.1.2).toNat : Nat) : Int) = z - r.2.2.1.2 by omega] at this
    rw [← Option.some.inj this]
    exact w2
  · exact hB
theorem rwRdL_ok {O0 : sxO} {q : Nat × sxN × sxV} (hO0 : sxOR (sxVw (ghL T V) scr 579 H) σ O0) (hq : ∃ (z : Int) (v : Value), sxNR σ q.2.1 z ∧ 0 ≤ z ∧ sxVw (ghL T V) scr 579 H q.1 z.toNat = some v ∧ sxVR σ q.2.2 v) : ∀ {l : List rwR} {B : sxB}, (∀ r ∈ l, r ∈ rwTab) → sxBR T σ B → sxBR T σ (rwRdL 579 O0 q l B)
  | [], _, _, hB => hB
  | r :: l, B, h, hB => by
    rw [rwRdL_c]
    rw [sxBk_eq]
    exact rwRdL_ok hO0 hq (fun r hr => h r (List.mem_cons_of_mem _ hr)) (rwRd1_ok (h r List.mem_cons_self) hB hO0 hq)
/-- the rows' indicators that a left row names -/
theorem ocRw {r : ocTy} (h : r ∈ ocTab) : ((r.2.2.2.1, (r.2.1.1, r.2.1.2), (r.2.2.1.1, 0), (59, 12)) : rwR) ∈ rwTab ∧ ((r.2.2.2.2, (r.2.1.1, r.2.1.2), (r.2.2.1.2.1, 0), (58, 12)) : rwR) ∈ rwTab ∧ (r.2.1.1 < 579 ∧ r.2.2.1.2.2 < 579) := by
  simp only [ocTab, List.mem_cons, List.not_mem_nil, or_false] at h
  rcases h with rfl | rfl | rfl <;> decide
theorem ocZ_of {i j : Nat} {z : Int} (h : rwEl H i (0 + j) = some z) : rwZ H i j = z := by
  unfold rwZ
  rw [Nat.zero_add] at h
  rw [h]
/-- its own rows are the text's -/
theorem ocW_T {r : ocTy} (h1 : rwP T (r.2.2.2.1, (r.2.1.1, r.2.1.2), (r.2.2.1.1, 0), (59, 12)) H) (h2 : rwP T (r.2.2.2.2, (r.2.1.1, r.2.1.2), (r.2.2.1.2.1, 0), (58, 12)) H) : ∀ k : Nat, k ≤ 12 → (k : Int) ≤ ghV H r.2.1.1 r.2.1.2 → ocW r (tWk T) H k = tLF T (ghV H r.2.1.1 0) k
  | 0, _, _ => rfl
  | k + 1, k1, k2 => by
    have e1 := ocZ_of (h1 k (show k < 12 by omega) (show (k : Int) < ghV H r.2.1.1 r.2.1.2 by omega))
    have e2 := ocZ_of (h2 k (show k < 12 by omega) (show (k : Int) < ghV H r.2.1.1 r.2.1.2 by omega))
    have e1 : rwZ H r.2.2.1.1 k = tCl 0 63 (tUl T (51 + k)) := e1
    have e2 : rwZ H r.2.2.1.2.1 k = tUl T (34 + k) := e2
    unfold ocW tLF
    rw [e1, e2, ocW_T h1 h2 k (by omega) (by omega)]
theorem ocOne {r : ocTy} (hr : r ∈ ocTab) (hB : sxBR T σ B) (hO : sxOR (sxVw (ghL T V) scr 579 H) σ O) (h : sxIs1 B O 579 r.1.2 = true) : ocA r H := by
  obtain ⟨v, hv⟩ := gIs1 hB hO h
  rw [ghL_O hr] at hv
  exact (ghB_iff hv).1
theorem ocRd1_ok {O0 : sxO} {q : Nat × sxN × sxV} {r : ocTy} (hr : r ∈ ocTab) (hB : sxBR T σ B) (hO0 : sxOR (sxVw (ghL T V) scr 579 H) σ O0) (hq : ∃ (z : Int) (v : Value), sxNR σ q.2.1 z ∧ 0 ≤ z ∧ sxVw (ghL T V) scr 579 H q.1 z.toNat = some v ∧ sxVR σ q.2.2 v) : sxBR T σ (ocRd1 579 O0 B q r) := by
  obtain ⟨z, v, z1, z2, z3, z4⟩ := hq
  obtain ⟨r1, r2, c1, c2⟩ := ocRw hr
  unfold ocRd1
  split
  · exact hB
  rename_i e
  have e := Nat.eq_of_beq_eq_true e
  rw [e] at z3
  split
  · rename_i w hw
    rw [hw] at z4
    obtain ⟨wz, w1, w2⟩ := rwEl_of (k := 0) c2 z3 z4
    split
    · exact hB
    rename_i h1
    rw [Bool.and_eq_true, Bool.and_eq_true] at h1
    have ho := ocOne hr hB hO0 h1.1
    have p1 := rwIs1 (r := (r.2.2.2.1, (r.2.1.1, r.2.1.2), (r.2.2.1.1, 0), (59, 12))) r1 hB hO0 h1.2.1
    have p2 := rwIs1 (r := (r.2.2.2.2, (r.2.1.1, r.2.1.2), (r.2.2.1.2.1, 0), (58, 12))) r2 hB hO0 h1.2.2
    split
    · rename_i a ha
      have ha := gOI (j := 0) c1 hB hO0 ha
      split
      · rename_i m hm
        have hm := gOI c1 hB hO0 hm
        split
        · rename_i wk hwk
          have hwk := sxG1_ok hB hwk (sxNR.c0 hB 0)
          split
          · rename_i h2
            rw [Bool.and_eq_true] at h2
            have hz := sxEqv_ok hB h2.1 z1 (sxNm_ok hB hwk)
            have hb := sxBtw_ok hB h2.2 hm
            have hw0 := tWk_rg T
            have hz : z = tWk T := hz
            subst hz
            have hp := ho (tWk T).toNat (by omega)
            unfold ocP at hp
            rw [show (((tWk T).toNat : Nat) : Int) = tWk T by omega, w1, ocW_T p1 p2 _ (by omega) (by omega)] at hp
            refine sxPut_ok hB ha hm ?_
            show sxNR σ w (tLF T (ghV H r.2.1.1 0) (ghV H r.2.1.1 r.2.1.2).toNat)
            rw [← Option.some.inj hp]
            exact w2
          · exact hB
        · exact hB
      · exact hB
    · exact hB
  · exact hB
theorem ocRdL_ok {O0 : sxO} {q : Nat × sxN × sxV} (hO0 : sxOR (sxVw (ghL T V) scr 579 H) σ O0) (hq : ∃ (z : Int) (v : Value), sxNR σ q.2.1 z ∧ 0 ≤ z ∧ sxVw (ghL T V) scr 579 H q.1 z.toNat = some v ∧ sxVR σ q.2.2 v) : ∀ {l : List ocTy} {B : sxB}, (∀ r ∈ l, r ∈ ocTab) → sxBR T σ B → sxBR T σ (ocRdL 579 O0 q l B)
  | [], _, _, hB => hB
  | r :: l, B, h, hB => by
    unfold ocRdL
    rw [sxBk_eq]
    exact ocRdL_ok hO0 hq (fun r hr => h r (List.mem_cons_of_mem _ hr)) (ocRd1_ok (h r List.mem_cons_self) hB hO0 hq)
/-- one SEEING more -/
theorem tLF_up {A : Int} {I : Int} (h0 : 0 ≤ I) (hle : sxSem T 59 I 0 ≤ tWk T) : sxSem T 61 A (I + 1) = sxSem T 12 (sxSem T 61 A I) (sxSem T 58 I 0) := by
  have e : (I + 1).toNat = I.toNat + 1 := by omega
  show tLF T A (I + 1).toNat = (Int64.ofInt (tLF T A I.toNat) &&& Int64.ofInt (tUl T (34 + I.toNat))).toInt
  rw [e]
  show (if tCl 0 63 (tUl T (51 + I.toNat)) ≤ tWk T then (Int64.ofInt (tLF T A I.toNat) &&& Int64.ofInt (tUl T (34 + I.toNat))).toInt else tLF T A I.toNat) = _
  exact if_pos hle
theorem tLF_no {A : Int} {I : Int} (h0 : 0 ≤ I) (hle : tWk T < sxSem T 59 I 0) : sxSem T 61 A (I + 1) = sxSem T 61 A I := by
  have e : (I + 1).toNat = I.toNat + 1 := by omega
  show tLF T A (I + 1).toNat = tLF T A I.toNat
  rw [e]
  show (if tCl 0 63 (tUl T (51 + I.toNat)) ≤ tWk T then (Int64.ofInt (tLF T A I.toNat) &&& Int64.ofInt (tUl T (34 + I.toNat))).toInt else tLF T A I.toNat) = _
  exact if_neg (by have hle : tWk T < tCl 0 63 (tUl T (51 + I.toNat)) := hle; omega)
theorem ocSt0_ok : ∀ {F : sxF} {B : sxB}, (∀ q ∈ F, sxFt T σ q) → sxBR T σ B → sxBR T σ (ocSt0 F B)
  | [], _, _, hB => hB
  | q :: r, B, hF, hB => by
    have hr : ∀ q ∈ r, sxFt T σ q := fun q hq => hF q (List.mem_cons_of_mem _ hq)
    unfold ocSt0
    split
    · rename_i e
      rw [sxBn_eq]
      obtain ⟨A, C, Z, e1, e2, e3, e4⟩ := hF q List.mem_cons_self
      rw [Nat.eq_of_beq_eq_true e] at e4
      refine ocSt0_ok hr (sxPut_ok hB e1 (sxNR.c0 hB 0) ?_)
      have e5 : sxSem T 61 A 0 = Z := e4
      rw [e5]
      exact e3
    · exact ocSt0_ok hr hB
theorem ocSt1_ok {w : sxN} {q : Nat × sxN × sxN × sxN} (hw : sxNR σ w (tWk T)) (hB : sxBR T σ B) (hq : sxFt T σ q) : sxBR T σ (ocSt1 w B q) := by
  obtain ⟨A, I, Z, e1, e2, e3, e4⟩ := hq
  unfold ocSt1
  split
  · exact hB
  rename_i h1
  rw [Nat.eq_of_beq_eq_true h1] at e4
  split
  · exact hB
  rename_i m hm
  have hm := sxG1_ok hB hm e2
  split
  · exact hB
  rename_i h2
  have h2 := sxBtw_ok hB h2 e2
  split
  · rename_i h3
    have h3 := sxLe_ok hB h3 hm hw
    split
    · exact hB
    rename_i u hu
    have hu := sxG1_ok hB hu e2
    split
    · exact hB
    rename_i v hv
    have hv : sxNR σ v (sxSem T 12 Z (sxSem T 58 I 0)) := by
      split at hv
      · rename_i v1 h4
        cases hv
        exact sxFl_ok hB h4 hB.2.2.2.2 (sxNm_ok hB e3) (sxNm_ok hB hu)
      · rw [sem_cm (by decide)]
        exact sxFl_ok hB hv hB.2.2.2.2 (sxNm_ok hB hu) (sxNm_ok hB e3)
    refine sxPut_ok hB e1 (sxNR.off e2 1) ?_
    rw [tLF_up h2.1 (by omega), e4]
    exact hv
  · split
    · rename_i h3
      have h3 := sxLe_ok hB h3 hw hm
      refine sxPut_ok hB e1 (sxNR.off e2 1) ?_
      rw [tLF_no h2.1 (by omega), e4]
      exact e3
    · exact hB
theorem ocStL_ok {w : sxN} (hw : sxNR σ w (tWk T)) : ∀ {F : sxF} {B : sxB}, (∀ q ∈ F, sxFt T σ q) → sxBR T σ B → sxBR T σ (ocStL w F B)
  | [], _, _, hB => hB
  | q :: r, B, hF, hB => by
    unfold ocStL
    rw [sxBn_eq]
    exact ocStL_ok hw (fun q hq => hF q (List.mem_cons_of_mem _ hq)) (ocSt1_ok hw hB (hF q List.mem_cons_self))
theorem ocEq1_ok {q : Nat × sxN × sxN × sxN} (hB : sxBR T σ B) (hq : sxFt T σ q) : sxBR T σ (ocEq1 B q) := by
  obtain ⟨A, I, Z, e1, e2, e3, e4⟩ := hq
  unfold ocEq1
  split
  · exact hB
  rename_i h1
  rw [Nat.eq_of_beq_eq_true h1] at e4
  split
  · exact hB
  rename_i z hz
  have hz := sxFl_ok hB hz hB.2.2.2.2 (sxNm_ok hB e1) (sxNm_ok hB e2)
  split
  · exact hB
  · rw [e4] at hz
    exact sxEqX_ok hB hz e3
theorem ocEqL_ok : ∀ {F : sxF} {B : sxB}, (∀ q ∈ F, sxFt T σ q) → sxBR T σ B → sxBR T σ (ocEqL F B)
  | [], _, _, hB => hB
  | q :: r, B, hF, hB => by
    unfold ocEqL
    rw [sxBn_eq]
    exact ocEqL_ok (fun q hq => hF q (List.mem_cons_of_mem _ hq)) (ocEq1_ok hB (hF q List.mem_cons_self))
theorem ocStep_ok (hB : sxBR T σ B) : sxBR T σ (ocStep B) := by
  have h1 := ocSt0_ok hB.2.2.2.2 hB
  unfold ocStep
  rw [sxBn_eq]
  split
  · exact h1
  · rename_i w hw
    have hw := sxG1_ok h1 hw (sxNR.c0 h1 0)
    have h2 := ocStL_ok hw h1.2.2.2.2 h1
    rw [sxBn_eq]
    exact ocEqL_ok h2.2.2.2.2 h2
theorem flV_ok {o : Nat} {x y r : sxN} {X Y : Int} (hB : sxBR T σ B) (h : flV B o x y = some r) (hx : sxNR σ x X) (hy : sxNR σ y Y) : sxNR σ r (sxSem T o X Y) := by
  unfold flV at h
  split at h
  · rename_i c hc
    cases h
    rw [sxCst_ok hB hc hx hy]
    exact sxNR.c0 hB c
  · exact sxFl_ok hB h hB.2.2.2.2 hx hy
theorem flN_ok {x : sxN} {X : Int} (hB : sxBR T σ B) (h : flN B x = true) (hx : sxNR σ x X) : X ≠ 0 := by
  unfold flN at h
  split at h
  · rename_i h1
    have := sxNot_ok hB h1 hx
    omega
  · exact sxNeq_ok hB hx h hB.2.2.2.2
theorem fl_sh {K : Int} (h0 : 0 ≤ K) : sxSem T 6 1 K = tSh K.toNat := by
  show (Int32.ofInt 1 <<< (Int32.ofInt K &&& 31)).toInt = (Int32.ofInt 1 <<< (Int32.ofInt ((K.toNat : Nat) : Int) &&& 31)).toInt
  rw [show ((K.toNat : Nat) : Int) = K by omega]
theorem flF_ok {q p f : Nat × sxN × sxN × sxN} {W A Z K M : Int} (hB : sxBR T σ B) (q1 : sxNR σ q.2.1 W) (q2 : sxNR σ q.2.2.2 Z) (p1 : sxNR σ p.2.1 K) (hM : sxSem T 56 K 0 = M) (hA : A = sxSem T 14 M (-1)) (hZ : sxSem T 12 W A = Z) (hf : sxFt T σ f) : sxBR T σ (flF B q p f) := by
  obtain ⟨V, I, R, e1, e2, e3, e4⟩ := hf
  unfold flF
  split
  · exact hB
  rename_i h1
  rw [Nat.eq_of_beq_eq_true h1] at e4
  split
  · exact hB
  rename_i h2
  rw [Bool.and_eq_true, Bool.and_eq_true] at h2
  obtain ⟨h2, h3, h4⟩ := h2
  have h2 := sxEqv_ok hB h2 e1 (sxNm_ok hB q1)
  have h3 := sxEqv_ok hB h3 e2 (sxNm_ok hB p1)
  have h4 := sxBtw_ok hB h4 e2
  subst h2 h3
  have et : (I + 1).toNat = I.toNat + 1 := by omega
  have hZ : (Int64.ofInt V &&& Int64.ofInt (Int64.ofInt (tUl T I.toNat) ^^^ Int64.ofInt (-1)).toInt).toInt = Z := by
    rw [← hZ, hA, ← hM]
    rfl
  have step : sxSem T 65 V (I + 1) = if Z = 0 then (Int32.ofInt R ||| Int32.ofInt (tSh I.toNat)).toInt else R := by
    have e4 : tFo T V I.toNat = R := e4
    show tFo T V (I + 1).toNat = _
    rw [et]
    show (if (Int64.ofInt V &&& Int64.ofInt (Int64.ofInt (tUl T I.toNat) ^^^ Int64.ofInt (-1)).toInt).toInt = 0 then (Int32.ofInt (tFo T V I.toNat) ||| Int32.ofInt (tSh I.toNat)).toInt else tFo T V I.toNat) = _
    rw [hZ, e4]
  split
  · rename_i h5
    have h5 : Z = 0 := by
      have := sxNm_ok hB q2
      rw [sxSame_ok h5] at this
      exact sxN0 hB this
    split
    · exact hB
    rename_i u hu
    have hu := flV_ok hB hu (sxNR.c0 hB 1) (sxNm_ok hB e2)
    split
    · exact hB
    rename_i r hr
    have hr := flV_ok hB hr (sxNm_ok hB e3) (sxNm_ok hB hu)
    refine sxPut_ok hB e1 (sxNR.off e2 1) ?_
    rw [step, if_pos h5, ← fl_sh (T := T) h4.1]
    exact hr
  · split
    · rename_i h5
      have h5 := flN_ok hB h5 q2
      refine sxPut_ok hB e1 (sxNR.off e2 1) ?_
      rw [step, if_neg h5]
      exact e3
    · exact hB
theorem flFf_ok {q p : Nat × sxN × sxN × sxN} {W A Z K M : Int} (q1 : sxNR σ q.2.1 W) (q2 : sxNR σ q.2.2.2 Z) (p1 : sxNR σ p.2.1 K) (hM : sxSem T 56 K 0 = M) (hA : A = sxSem T 14 M (-1)) (hZ : sxSem T 12 W A = Z) : ∀ {F : sxF} {B : sxB}, (∀ f ∈ F, sxFt T σ f) → sxBR T σ B → sxBR T σ (flFf q p F B)
  | [], _, _, hB => hB
  | f :: r, B, hF, hB => by
    unfold flFf
    rw [sxBn_eq]
    exact flFf_ok q1 q2 p1 hM hA hZ (fun f hf => hF f (List.mem_cons_of_mem _ hf)) (flF_ok hB q1 q2 p1 hM hA hZ (hF f List.mem_cons_self))
theorem sem56 {K Y : Int} : sxSem T 56 K Y = sxSem T 56 K 0 := by
  show tUl T K.toNat = sxSem T 56 K 0
  rfl
theorem sem55 {K Y : Int} : sxSem T 55 K Y = sxSem T 55 K 0 := by
  show ((pN 32 (K % 4294967296).toNat : Nat) : Int) = sxSem T 55 K 0
  rfl
theorem flFp_ok {q : Nat × sxN × sxN × sxN} {W A Z : Int} (q1 : sxNR σ q.2.1 W) (q3 : sxNR σ q.2.2.1 A) (q2 : sxNR σ q.2.2.2 Z) (hZ : sxSem T 12 W A = Z) : ∀ {F : sxF} {B : sxB}, (∀ f ∈ F, sxFt T σ f) → sxBR T σ B → sxBR T σ (flFp q F B)
  | [], _, _, hB => hB
  | p :: r, B, hF, hB => by
    have hr : ∀ f ∈ r, sxFt T σ f := fun f hf => hF f (List.mem_cons_of_mem _ hf)
    unfold flFp
    split
    · exact flFp_ok q1 q3 q2 hZ hr hB
    rename_i h1
    obtain ⟨K, Y, M, e1, e2, e3, e4⟩ := hF p List.mem_cons_self
    rw [Nat.eq_of_beq_eq_true h1, sem56] at e4
    split
    · exact flFp_ok q1 q3 q2 hZ hr hB
    rename_i w hw
    have hw := sxFl_ok hB hw hB.2.2.2.2 (sxNm_ok hB e3) (sxNR.c0 hB (-1))
    split
    · exact flFp_ok q1 q3 q2 hZ hr hB
    rename_i h2
    have h2 := sxEqv_ok hB h2 q3 (sxNm_ok hB hw)
    rw [sxBn_eq]
    exact flFp_ok q1 q3 q2 hZ hr (flFf_ok q1 q2 e1 e4 h2 hZ hB.2.2.2.2 hB)
theorem flFq_ok : ∀ {F : sxF} {B : sxB}, (∀ f ∈ F, sxFt T σ f) → sxBR T σ B → sxBR T σ (flFq F B)
  | [], _, _, hB => hB
  | q :: r, B, hF, hB => by
    have hr : ∀ f ∈ r, sxFt T σ f := fun f hf => hF f (List.mem_cons_of_mem _ hf)
    unfold flFq
    split
    · exact flFq_ok hr hB
    rename_i h1
    obtain ⟨W, A, Z, e1, e2, e3, e4⟩ := hF q List.mem_cons_self
    rw [Nat.eq_of_beq_eq_true h1] at e4
    rw [sxBn_eq]
    exact flFq_ok hr (flFp_ok e1 e2 e3 e4 hB.2.2.2.2 hB)
theorem flS_ok {q p f : Nat × sxN × sxN × sxN} {M V Z K : Int} (hB : sxBR T σ B) (q1 : sxNR σ q.2.2.1 V) (q2 : sxNR σ q.2.2.2 Z) (p1 : sxNR σ p.2.1 K) (hM : sxSem T 56 K 0 = M) (hZ : sxSem T 23 M V = Z) (hf : sxFt T σ f) : sxBR T σ (flS B q p f) := by
  obtain ⟨V2, I, R, e1, e2, e3, e4⟩ := hf
  unfold flS
  split
  · exact hB
  rename_i h1
  split
  · exact hB
  rename_i h2
  rw [Bool.and_eq_true, Bool.and_eq_true] at h2
  obtain ⟨h2, h3, h4⟩ := h2
  have h2 := sxEqv_ok hB h2 e1 (sxNm_ok hB q1)
  have h3 := sxEqv_ok hB h3 e2 (sxNm_ok hB p1)
  have h4 := sxBtw_ok hB h4 e2
  subst h2 h3
  have m0 : Nat.min I.toNat 31 = I.toNat := Nat.min_eq_left (by omega)
  have m1 : Nat.min (I + 1).toNat 31 = I.toNat + 1 := by rw [show (I + 1).toNat = I.toNat + 1 by omega]; exact Nat.min_eq_left (by omega)
  have hZ : ((tBit (tUl T I.toNat) V2 : Nat) : Int) = Z := by
    rw [← hZ, ← hM]
    rfl
  have hz := sxNm_ok hB q2
  split
  · rename_i h5
    rw [Nat.eq_of_beq_eq_true h5] at e4
    have e4 : tBi T V2 (Nat.min I.toNat 31) = R := e4
    rw [m0] at e4
    have step : sxSem T 63 V2 (I + 1) = if tBit (tUl T I.toNat) V2 = 1 then (Int32.ofInt R ||| Int32.ofInt (tSh I.toNat)).toInt else R := by
      show tBi T V2 (Nat.min (I + 1).toNat 31) = _
      rw [m1]
      show (if tBit (tUl T I.toNat) V2 = 1 then (Int32.ofInt (tBi T V2 I.toNat) ||| Int32.ofInt (tSh I.toNat)).toInt else tBi T V2 I.toNat) = _
      rw [e4]
    split
    · rename_i h6
      rw [sxSame_ok h6] at hz
      have h7 := sxN0 hB hz
      refine sxPut_ok hB e1 (sxNR.off e2 1) ?_
      rw [step, if_neg (by omega)]
      exact e3
    split
    · exact hB
    rename_i h6
    rw [sxSame_ok h6] at hz
    have h7 := sxN0 hB hz
    split
    · exact hB
    rename_i u hu
    have hu := flV_ok hB hu (sxNR.c0 hB 1) (sxNm_ok hB e2)
    split
    · exact hB
    rename_i r hr
    have hr := flV_ok hB hr (sxNm_ok hB e3) (sxNm_ok hB hu)
    refine sxPut_ok hB e1 (sxNR.off e2 1) ?_
    rw [step, if_pos (by omega), ← fl_sh (T := T) h4.1]
    exact hr
  · rename_i h5
    have h64 : f.1 = 64 := by
      rw [Bool.or_eq_true] at h1
      rcases h1 with h1 | h1
      · rw [h1] at h5
        cases h5
      · exact Nat.eq_of_beq_eq_true h1
    rw [h64] at e4
    have e4 : tCn T V2 (Nat.min I.toNat 31) = R := e4
    rw [m0] at e4
    have step : sxSem T 64 V2 (I + 1) = R + Z := by
      show tCn T V2 (Nat.min (I + 1).toNat 31) = _
      rw [m1]
      show tCn T V2 I.toNat + ((tBit (tUl T I.toNat) V2 : Nat) : Int) = _
      rw [e4, hZ]
    have hc := sxNm_ok hB e3
    split
    · rename_i h6
      refine sxPut_ok hB e1 (sxNR.off e2 1) ?_
      rw [step]
      obtain ⟨z, z1, z2⟩ := hz
      obtain ⟨c, c1, c2⟩ := hc
      rw [Nat.eq_of_beq_eq_true h6, hB.1.2] at z1
      cases Option.some.inj z1
      exact ⟨c, c1, by dsimp only; omega⟩
    split
    · rename_i h6
      refine sxPut_ok hB e1 (sxNR.off e2 1) ?_
      rw [step]
      obtain ⟨z, z1, z2⟩ := hz
      obtain ⟨c, c1, c2⟩ := hc
      rw [Nat.eq_of_beq_eq_true h6, hB.1.2] at c1
      cases Option.some.inj c1
      exact ⟨z, z1, by dsimp only; omega⟩
    split
    · exact hB
    rename_i r hr
    have hr := sxFl_ok hB hr hB.2.2.2.2 hc hz
    refine sxPut_ok hB e1 (sxNR.off e2 1) ?_
    have rg := tCn_rg T V2 I.toNat
    have bl := tBit_lt (tUl T I.toNat) V2
    have e5 : sxSem T 5 R Z = R + Z := by
      show (Int32.ofInt R + Int32.ofInt Z).toInt = R + Z
      rw [← Int32.ofInt_add]
      exact i32_of (by omega) (by omega)
    rw [step, ← e5]
    exact hr
theorem flSf_ok {q p : Nat × sxN × sxN × sxN} {M V Z K : Int} (q1 : sxNR σ q.2.2.1 V) (q2 : sxNR σ q.2.2.2 Z) (p1 : sxNR σ p.2.1 K) (hM : sxSem T 56 K 0 = M) (hZ : sxSem T 23 M V = Z) : ∀ {F : sxF} {B : sxB}, (∀ f ∈ F, sxFt T σ f) → sxBR T σ B → sxBR T σ (flSf q p F B)
  | [], _, _, hB => hB
  | f :: r, B, hF, hB => by
    unfold flSf
    rw [sxBn_eq]
    exact flSf_ok q1 q2 p1 hM hZ (fun f hf => hF f (List.mem_cons_of_mem _ hf)) (flS_ok hB q1 q2 p1 hM hZ (hF f List.mem_cons_self))
theorem flSp_ok {q : Nat × sxN × sxN × sxN} {M V Z : Int} (q0 : sxNR σ q.2.1 M) (q1 : sxNR σ q.2.2.1 V) (q2 : sxNR σ q.2.2.2 Z) (hZ : sxSem T 23 M V = Z) : ∀ {F : sxF} {B : sxB}, (∀ f ∈ F, sxFt T σ f) → sxBR T σ B → sxBR T σ (flSp q F B)
  | [], _, _, hB => hB
  | p :: r, B, hF, hB => by
    have hr : ∀ f ∈ r, sxFt T σ f := fun f hf => hF f (List.mem_cons_of_mem _ hf)
    unfold flSp
    split
    · exact flSp_ok q0 q1 q2 hZ hr hB
    rename_i h1
    obtain ⟨K, Y, M2, e1, e2, e3, e4⟩ := hF p List.mem_cons_self
    rw [Nat.eq_of_beq_eq_true h1, sem56] at e4
    split
    · exact flSp_ok q0 q1 q2 hZ hr hB
    rename_i h2
    have h2 := sxEqv_ok hB h2 e3 (sxNm_ok hB q0)
    rw [sxBn_eq]
    exact flSp_ok q0 q1 q2 hZ hr (flSf_ok q1 q2 e1 (e4.trans h2) hZ hB.2.2.2.2 hB)
theorem flSq_ok : ∀ {F : sxF} {B : sxB}, (∀ f ∈ F, sxFt T σ f) → sxBR T σ B → sxBR T σ (flSq F B)
  | [], _, _, hB => hB
  | q :: r, B, hF, hB => by
    have hr : ∀ f ∈ r, sxFt T σ f := fun f hf => hF f (List.mem_cons_of_mem _ hf)
    unfold flSq
    split
    · exact flSq_ok hr hB
    rename_i h1
    obtain ⟨M, V, Z, e1, e2, e3, e4⟩ := hF q List.mem_cons_self
    rw [Nat.eq_of_beq_eq_true h1] at e4
    rw [sxBn_eq]
    exact flSq_ok hr (flSp_ok e1 e2 e3 e4 hB.2.2.2.2 hB)
theorem flCf_ok {q : Nat × sxN × sxN × sxN} {X Z : Int} (q0 : sxNR σ q.2.1 X) (q2 : sxNR σ q.2.2.2 Z) (hZ : sxSem T 55 X 0 = Z) : ∀ {F : sxF} {B : sxB}, (∀ f ∈ F, sxFt T σ f) → sxBR T σ B → sxBR T σ (flCf q F B)
  | [], _, _, hB => hB
  | f :: r, B, hF, hB => by
    have hr : ∀ f ∈ r, sxFt T σ f := fun f hf => hF f (List.mem_cons_of_mem _ hf)
    unfold flCf
    split
    · rename_i h1
      rw [Bool.and_eq_true, Bool.and_eq_true] at h1
      obtain ⟨h1, h2, h3⟩ := h1
      obtain ⟨V, I, R, e1, e2, e3, e4⟩ := hF f List.mem_cons_self
      rw [Nat.eq_of_beq_eq_true h1] at e4
      have h2 := sxEqv_ok hB h2 e3 (sxNm_ok hB q0)
      have h3 := sxBtw_ok hB h3 e2
      rw [sxBn_eq]
      refine flCf_ok q0 q2 hZ hr (sxPut_ok hB e1 e2 ?_)
      have m0 : Nat.min I.toNat 31 = I.toNat := Nat.min_eq_left (by omega)
      have e4 : tBi T V (Nat.min I.toNat 31) = R := e4
      have rg := tBi_rg T V I.toNat (by omega)
      have cn := tBi_cn T V I.toNat (by omega)
      have pw : 2 ^ I.toNat ≤ 2 ^ 12 := Nat.pow_le_pow_right (by decide) (by omega)
      have e12 : (2 : Nat) ^ 12 = 4096 := rfl
      rw [m0] at e4
      have key : sxSem T 64 V I = Z := by
        show tCn T V (Nat.min I.toNat 31) = Z
        rw [m0, ← cn, ← hZ, ← h2, ← e4]
        show _ = ((pN 32 (tBi T V I.toNat % 4294967296).toNat : Nat) : Int)
        rw [show (tBi T V I.toNat % 4294967296).toNat = (tBi T V I.toNat).toNat by omega]
      rw [key]
      exact q2
    · exact flCf_ok q0 q2 hZ hr hB
theorem flCq_ok : ∀ {F : sxF} {B : sxB}, (∀ f ∈ F, sxFt T σ f) → sxBR T σ B → sxBR T σ (flCq F B)
  | [], _, _, hB => hB
  | q :: r, B, hF, hB => by
    have hr : ∀ f ∈ r, sxFt T σ f := fun f hf => hF f (List.mem_cons_of_mem _ hf)
    unfold flCq
    split
    · exact flCq_ok hr hB
    rename_i h1
    obtain ⟨X, Y, Z, e1, e2, e3, e4⟩ := hF q List.mem_cons_self
    rw [Nat.eq_of_beq_eq_true h1, sem55] at e4
    rw [sxBn_eq]
    exact flCq_ok hr (flCf_ok e1 e3 e4 hB.2.2.2.2 hB)
theorem flE_ok : ∀ {F : sxF} {B : sxB}, (∀ f ∈ F, sxFt T σ f) → sxBR T σ B → sxBR T σ (flE F B)
  | [], _, _, hB => hB
  | q :: r, B, hF, hB => by
    have hr : ∀ f ∈ r, sxFt T σ f := fun f hf => hF f (List.mem_cons_of_mem _ hf)
    unfold flE
    split
    · exact flE_ok hr hB
    split
    · exact flE_ok hr hB
    rename_i z hz
    split
    · exact flE_ok hr hB
    obtain ⟨X, Y, Z, e1, e2, e3, e4⟩ := hF q List.mem_cons_self
    have hz := sxFl_ok hB hz hB.2.2.2.2 (sxNm_ok hB e1) (sxNm_ok hB e2)
    rw [e4] at hz
    rw [sxBn_eq]
    exact flE_ok hr (sxEqX_ok hB hz e3)
theorem flAll_ok (hB : sxBR T σ B) : sxBR T σ (flAll B) := by
  have h1 := flFq_ok hB.2.2.2.2 hB
  have h2 := flSq_ok h1.2.2.2.2 h1
  have h3 := flCq_ok h2.2.2.2.2 h2
  unfold flAll
  rw [sxBn_eq, sxBn_eq, sxBn_eq]
  exact flE_ok h3.2.2.2.2 h3
theorem pN_cmp : ∀ (k x y z : Nat), y + z + 1 = 2 ^ k → pN k (x &&& y) + pN k (x &&& z) = pN k x
  | 0, _, _, _, _ => rfl
  | k + 1, x, y, z, h => by
    have hp : 2 ^ (k + 1) = 2 * 2 ^ k := by rw [Nat.pow_succ]; omega
    have ih := pN_cmp k (x / 2) (y / 2) (z / 2) (by omega)
    have dv : ∀ w : Nat, (x &&& w) / 2 = x / 2 &&& w / 2 := fun w => by
      have := Nat.and_div_two_pow (a := x) (b := w) (n := 1)
      rw [show (2 : Nat) ^ 1 = 2 from rfl] at this
      exact this
    have md : ∀ w : Nat, (x &&& w) % 2 = x % 2 &&& w % 2 := fun w => by
      have := Nat.and_mod_two_pow (a := x) (b := w) (n := 1)
      rw [show (2 : Nat) ^ 1 = 2 from rfl] at this
      exact this
    have bit : ∀ a, a < 2 → ∀ b, b < 2 → ∀ c, c < 2 → b + c = 1 → (a &&& b) + (a &&& c) = a := by decide
    have b0 := bit (x % 2) (by omega) (y % 2) (by omega) (z % 2) (by omega) (by omega)
    show (x &&& y) % 2 + pN k ((x &&& y) / 2) + ((x &&& z) % 2 + pN k ((x &&& z) / 2)) = x % 2 + pN k (x / 2)
    rw [dv, dv, md, md]
    omega
theorem u14n (t : Int) : uL t + uL (sxSem T 14 t (-1)) + 1 = 18446744073709551616 := by
  have e : uL (sxSem T 14 t (-1)) = uL t ^^^ 18446744073709551615 := by
    show uL (Int64.ofInt t ^^^ Int64.ofInt (-1)).toInt = _
    rw [uL_t, ← uL_b t]
    exact BitVec.toNat_xor _ _
  have h : (BitVec.ofNat 64 (uL t) ^^^ BitVec.allOnes 64).toNat = uL t ^^^ 18446744073709551615 := by
    rw [BitVec.toNat_xor, BitVec.toNat_ofNat, Nat.mod_eq_of_lt (by have := uL_lt t; omega)]
    rfl
  rw [BitVec.xor_allOnes, BitVec.toNat_not, BitVec.toNat_ofNat, Nat.mod_eq_of_lt (by have := uL_lt t; omega)] at h
  have := uL_lt t
  rw [e, ← h]
  omega
theorem ppC_ok {t u : sxN} {A C : Int} (hB : sxBR T σ B) (ht : sxNR σ t A) (hu : sxNR σ u C) (h : ppC B t u = true) : uL A + uL C + 1 = 18446744073709551616 := by
  unfold ppC at h
  split at h
  · rename_i e
    rw [Bool.and_eq_true] at e
    obtain ⟨a, a1, a2⟩ := ht
    obtain ⟨c, c1, c2⟩ := hu
    rw [Nat.eq_of_beq_eq_true e.1, hB.1.2] at a1
    rw [Nat.eq_of_beq_eq_true e.2, hB.1.2] at c1
    cases Option.some.inj a1
    cases Option.some.inj c1
    have := iEq_ok h
    have e3 : A + C = -1 := by omega
    unfold uL
    omega
  · split at h
    · rename_i w hw
      have hw := sxFl_ok hB hw hB.2.2.2.2 ht (sxNR.c0 hB (-1))
      rw [← sxEqv_ok hB h hw hu]
      exact u14n A
    · cases h
theorem ppD1_ok {q p : Nat × sxN × sxN × sxN} {c l : sxN} {L A Z : Int} (hB : sxBR T σ B) (hl : sxNR σ q.2.1 L) (ha : sxNR σ q.2.2.1 A) (hz : sxSem T 12 L A = Z) (h1 : sxNR σ c (sxSem T 54 Z 0)) (h2 : sxNR σ l (sxSem T 54 L 0)) (hp : sxFt T σ p) : sxBR T σ (ppD1 B q p c l) := by
  obtain ⟨L2, A2, Z2, d1, d2, d3, d4⟩ := hp
  unfold ppD1
  split
  · exact hB
  rename_i e1
  rw [Nat.eq_of_beq_eq_true e1] at d4
  split
  · exact hB
  rename_i e2
  have e2 := sxEqv_ok hB e2 d1 (sxNm_ok hB hl)
  split
  · exact hB
  rename_i e3
  have e3 := ppC_ok hB (sxNm_ok hB ha) (sxNm_ok hB d2) e3
  split
  · exact hB
  rename_i d hd
  have hd := sxFl_ok hB hd hB.2.2.2.2 (sxNm_ok hB d3) (sxNR.c0 hB 0)
  refine sxPut_ok hB h2 h1 ?_
  have key : sxSem T 15 (sxSem T 54 L 0) (sxSem T 54 Z 0) = sxSem T 54 Z2 0 := by
    subst hz d4
    rw [e2]
    show (Int32.ofInt ((pN 64 (uL L) : Nat) : Int) - Int32.ofInt ((pN 64 (uL (sxSem T 12 L A)) : Nat) : Int)).toInt = ((pN 64 (uL (sxSem T 12 L A2)) : Nat) : Int)
    rw [u12, u12]
    have k1 := pN_cmp 64 (uL L) (uL A) (uL A2) e3
    have k2 := pN_le 64 (uL L)
    generalize pN 64 (uL L) = x at k1 k2 ⊢
    generalize pN 64 (uL L &&& uL A) = y at k1 ⊢
    generalize pN 64 (uL L &&& uL A2) = z at k1 ⊢
    have m : (Int32.ofInt (x : Int) - Int32.ofInt (y : Int)) = Int32.ofInt (z : Int) := by
      have e : (x : Int) - (y : Int) = (z : Int) := by omega
      rw [← e, Int32.ofInt_sub]
    rw [m]
    exact i32_of (by omega) (by omega)
  rw [key]
  exact hd
theorem ppDP_ok {q : Nat × sxN × sxN × sxN} {c l : sxN} {L A Z : Int} (hl : sxNR σ q.2.1 L) (ha : sxNR σ q.2.2.1 A) (hz : sxSem T 12 L A = Z) (h1 : sxNR σ c (sxSem T 54 Z 0)) (h2 : sxNR σ l (sxSem T 54 L 0)) : ∀ {F : sxF} {B : sxB}, (∀ p ∈ F, sxFt T σ p) → sxBR T σ B → sxBR T σ (ppDP q c l F B)
  | [], _, _, hB => hB
  | p :: r, B, hF, hB => by
    unfold ppDP
    rw [sxBn_eq]
    exact ppDP_ok hl ha hz h1 h2 (fun p hp => hF p (List.mem_cons_of_mem _ hp)) (ppD1_ok hB hl ha hz h1 h2 (hF p List.mem_cons_self))
theorem ppDL_ok : ∀ {F : sxF} {B : sxB}, (∀ q ∈ F, sxFt T σ q) → sxBR T σ B → sxBR T σ (ppDL F B)
  | [], _, _, hB => hB
  | q :: r, B, hF, hB => by
    have hr : ∀ q ∈ r, sxFt T σ q := fun q hq => hF q (List.mem_cons_of_mem _ hq)
    unfold ppDL
    split
    · rename_i e
      obtain ⟨L, A, Z, e1, e2, e3, e4⟩ := hF q List.mem_cons_self
      rw [Nat.eq_of_beq_eq_true e] at e4
      split
      · exact ppDL_ok hr hB
      rename_i c hc
      split
      · exact ppDL_ok hr hB
      rename_i l hl
      rw [sxBn_eq]
      exact ppDL_ok hr (ppDP_ok e1 e2 e4 (sxFl_ok hB hc hB.2.2.2.2 (sxNm_ok hB e3) (sxNR.c0 hB 0)) (sxFl_ok hB hl hB.2.2.2.2 (sxNm_ok hB e1) (sxNR.c0 hB 0)) hB.2.2.2.2 hB)
    · exact ppDL_ok hr hB
theorem b64_in {z t a : BitVec 64} (h : z &&& a = z) : z &&& (t &&& a) = z &&& t := by
  rw [BitVec.and_comm t a, ← BitVec.and_assoc, h]
theorem b64_up {z u a : BitVec 64} (h : z &&& a = z) : (z &&& u) &&& a = z &&& u := by
  rw [BitVec.and_assoc, BitVec.and_comm u a, ← BitVec.and_assoc, h]
theorem i64_in {z t a : Int64} (h : z &&& a = z) : z &&& (t &&& a) = z &&& t := by
  apply Int64.toBitVec_inj.mp
  exact b64_in (z := z.toBitVec) (t := t.toBitVec) (a := a.toBitVec) (congrArg Int64.toBitVec h)
theorem i64_up {z u a : Int64} (h : z &&& a = z) : (z &&& u) &&& a = z &&& u := by
  apply Int64.toBitVec_inj.mp
  exact b64_up (z := z.toBitVec) (u := u.toBitVec) (a := a.toBitVec) (congrArg Int64.toBitVec h)
theorem tLF_in (T : Nat) (a : Int) : ∀ k, Int64.ofInt (tLF T a k) &&& Int64.ofInt (tAll a) = Int64.ofInt (tLF T a k)
  | 0 => by
    apply Int64.toBitVec_inj.mp
    show (Int64.ofInt (tAll a)).toBitVec &&& (Int64.ofInt (tAll a)).toBitVec = (Int64.ofInt (tAll a)).toBitVec
    simp
  | k + 1 => by
    unfold tLF
    split
    · rw [Int64.ofInt_toInt]
      exact i64_up (tLF_in T a k)
    · exact tLF_in T a k
theorem lfIn1_ok {q p : Nat × sxN × sxN × sxN} (hB : sxBR T σ B) (h61 : q.1 = 61) (hq : sxFt T σ q) (hp : sxFt T σ p) : sxBR T σ (lfIn1 B q p) := by
  obtain ⟨A, I, Z, e1, e2, e3, e4⟩ := hq
  obtain ⟨K, A2, Y, d1, d2, d3, d4⟩ := hp
  unfold lfIn1
  split
  · exact hB
  rename_i h1
  rw [Nat.eq_of_beq_eq_true h1] at d4
  split
  · exact hB
  rename_i h2
  have h2 := sxEqv_ok hB h2 d2 (sxNm_ok hB e1)
  split
  · exact hB
  rename_i t ht
  have ht := sxFl_ok hB ht hB.2.2.2.2 (sxNm_ok hB d1) (sxNR.c0 hB 0)
  split
  · exact hB
  rename_i z hz
  have hz := sxFl_ok hB hz hB.2.2.2.2 (sxNm_ok hB e3) (sxNm_ok hB ht)
  rw [h61] at e4
  refine sxPut_ok hB e3 d3 ?_
  have key : sxSem T 12 Z Y = sxSem T 12 Z (sxSem T 52 K 0) := by
    subst e4 d4
    subst h2
    show (Int64.ofInt (tLF T _ I.toNat) &&& Int64.ofInt (Int64.ofInt (tAtm K) &&& Int64.ofInt (tAll _)).toInt).toInt = (Int64.ofInt (tLF T _ I.toNat) &&& Int64.ofInt (tAtm K)).toInt
    rw [Int64.ofInt_toInt, i64_in (tLF_in T _ I.toNat)]
  rw [key]
  exact hz
theorem lfInP_ok {q : Nat × sxN × sxN × sxN} (h61 : q.1 = 61) (hq : sxFt T σ q) : ∀ {F : sxF} {B : sxB}, (∀ p ∈ F, sxFt T σ p) → sxBR T σ B → sxBR T σ (lfInP q F B)
  | [], _, _, hB => hB
  | p :: r, B, hF, hB => by
    unfold lfInP
    rw [sxBn_eq]
    exact lfInP_ok h61 hq (fun p hp => hF p (List.mem_cons_of_mem _ hp)) (lfIn1_ok hB h61 hq (hF p List.mem_cons_self))
theorem lfInL_ok : ∀ {F : sxF} {B : sxB}, (∀ q ∈ F, sxFt T σ q) → sxBR T σ B → sxBR T σ (lfInL F B)
  | [], _, _, hB => hB
  | q :: r, B, hF, hB => by
    have hr : ∀ q ∈ r, sxFt T σ q := fun q hq => hF q (List.mem_cons_of_mem _ hq)
    unfold lfInL
    split
    · rename_i e
      rw [sxBn_eq]
      exact lfInL_ok hr (lfInP_ok (Nat.eq_of_beq_eq_true e) (hF q List.mem_cons_self) hB.2.2.2.2 hB)
    · exact lfInL_ok hr hB
theorem ocFnd_ok {w v : sxN} {k : Nat} {W : Int} (hk : k < 579) (hB : sxBR T σ B) (hw : sxNR σ w W) : ∀ {O : sxO}, sxOR (sxVw (ghL T V) scr 579 H) σ O → ocFnd B w k O = some v → ∃ z, rwEl H k W.toNat = some z ∧ sxNR σ v z
  | [], _, h => by cases h
  | q :: r, hO, h => by
    have hr : sxOR (sxVw (ghL T V) scr 579 H) σ r := fun q hq => hO q (List.mem_cons_of_mem _ hq)
    unfold ocFnd at h
    split at h
    · exact ocFnd_ok hk hB hw hr h
    rename_i e
    have e := Nat.eq_of_beq_eq_true e
    split at h
    · rename_i v1 hv1
      split at h
      · rename_i e2
        cases h
        obtain ⟨z, u, z1, z2, z3, z4⟩ := hO q List.mem_cons_self
        have := sxEqv_ok hB e2 z1 hw
        subst this
        rw [e] at z3
        rw [hv1] at z4
        exact rwEl_of (k := 0) hk z3 z4
      · exact ocFnd_ok hk hB hw hr h
    · exact ocFnd_ok hk hB hw hr h
theorem ocIs1_ok {w : sxN} {r : ocTy} (hr : r ∈ ocTab) (hw : sxNR σ w (tWk T)) (hB : sxBR T σ B) (hO : sxOR (sxVw (ghL T V) scr 579 H) σ O) (h : ocIs1 579 B O w r = true) : ocP r (tWk T) H := by
  obtain ⟨r1, r2, c1, c2⟩ := ocRw hr
  unfold ocIs1 at h
  split at h
  · cases h
  rename_i h1
  rw [Bool.and_eq_true] at h1
  have p1 := rwIs1 (r := (r.2.2.2.1, (r.2.1.1, r.2.1.2), (r.2.2.1.1, 0), (59, 12))) r1 hB hO h1.1
  have p2 := rwIs1 (r := (r.2.2.2.2, (r.2.1.1, r.2.1.2), (r.2.2.1.2.1, 0), (58, 12))) r2 hB hO h1.2
  split at h
  · rename_i a ha
    have ha := gOI (j := 0) c1 hB hO ha
    split at h
    · rename_i m hm
      have hm := gOI c1 hB hO hm
      split at h
      · cases h
      rename_i h2
      have h2 := sxBtw_ok hB h2 hm
      split at h
      · cases h
      rename_i t ht
      have ht := sxFl_ok hB ht hB.2.2.2.2 (sxNm_ok hB ha) (sxNm_ok hB hm)
      split at h
      · cases h
      rename_i v hv
      obtain ⟨z, v1, v2⟩ := ocFnd_ok c2 hB (sxNm_ok hB hw) hO hv
      have := sxEqv_ok hB h ht (sxNm_ok hB v2)
      unfold ocP
      rw [v1, ocW_T p1 p2 _ (by omega) (by omega), ← this]
      rfl
    · cases h
  · cases h
theorem ocIsL_ok {w : sxN} {O0 : sxO} (hw : sxNR σ w (tWk T)) (hB : sxBR T σ B) (hO0 : sxOR (sxVw (ghL T V) scr 579 H) σ O0) : ∀ {l : List ocTy} {O : sxO}, (∀ r ∈ l, r ∈ ocTab) → sxOR (sxVw (ghL T V) scr 579 H) σ O → sxOR (sxVw (ghL T V) scr 579 H) σ (ocIsL 579 B O0 w l O)
  | [], _, _, hO => hO
  | r :: l, O, hl, hO => by
    have hr := hl r List.mem_cons_self
    have ih := fun {O} (hO : sxOR (sxVw (ghL T V) scr 579 H) σ O) => ocIsL_ok hw hB hO0 (l := l) (O := O) (fun r hr => hl r (List.mem_cons_of_mem _ hr)) hO
    unfold ocIsL
    split
    · rename_i h
      have hp := ocIs1_ok hr hw hB hO0 h
      exact ih (gApp (O1 := [_]) (gOne (g := r.1.1) hB ((ghL_W hr).trans (ghB_of hp))) hO)
    · exact ih hO
theorem ocIs_ok (hB : sxBR T σ B) (hO : sxOR (sxVw (ghL T V) scr 579 H) σ O) : sxOR (sxVw (ghL T V) scr 579 H) σ (ocIs 579 B O) := by
  unfold ocIs
  split
  · exact hO
  · rename_i w hw
    exact ocIsL_ok (sxG1_ok hB hw (sxNR.c0 hB 0)) hB hO (fun r hr => hr) hO
theorem rwRdO_ok {O0 : sxO} (hO0 : sxOR (sxVw (ghL T V) scr 579 H) σ O0) : ∀ {O : sxO} {B : sxB}, sxOR (sxVw (ghL T V) scr 579 H) σ O → sxBR T σ B → sxBR T σ (rwRdO 579 O0 O B)
  | [], _, _, hB => hB
  | q :: l, B, hO, hB => by
    have hl : sxOR (sxVw (ghL T V) scr 579 H) σ l := fun q hq => hO q (List.mem_cons_of_mem _ hq)
    rw [rwRdO_c]
    split
    · exact rwRdO_ok hO0 hl hB
    · rw [sxBk_eq, sxBk_eq]
      exact rwRdO_ok hO0 hl (ocRdL_ok hO0 (hO q List.mem_cons_self) (fun r hr => hr) (rwRdL_ok hO0 (hO q List.mem_cons_self) (fun r hr => hr) hB))
theorem rwNt_ok {b c : sxN} {Z : Int} (hB : sxBR T σ B) (hb : sxNR σ b Z) : ∀ {F : sxF}, rwNt B b F = some c → (∀ q ∈ F, sxFt T σ q) → ∃ C, sxNR σ c C ∧ sxSem T 14 C (-1) = Z
  | [], h, _ => by cases h
  | q :: r, h, hF => by
    have hr : ∀ q ∈ r, sxFt T σ q := fun q hq => hF q (List.mem_cons_of_mem _ hq)
    rw [rwNt_c] at h
    split at h
    · exact rwNt_ok hB hb h hr
    rename_i h1
    split at h
    · exact rwNt_ok hB hb h hr
    rename_i h2
    split at h
    · rename_i h3
      cases h
      obtain ⟨a, d, z, e1, e2, e3, e4⟩ := hF q List.mem_cons_self
      have e2 := sxNm_ok hB e2
      rw [sxSame_ok h2] at e2
      have e2 := sxN0 hB e2
      have h3 := sxEqv_ok hB h3 e3 hb
      rw [Nat.eq_of_beq_eq_true h1, e2] at e4
      exact ⟨a, e1, e4.trans h3⟩
    · exact rwNt_ok hB hb h hr
theorem bit_nt (a c : BitVec 64) : (a &&& (c ^^^ 18446744073709551615#64)) = 0#64 ↔ a &&& c = a := by
  have e1 : ∀ i, i < 64 → (18446744073709551615#64).getLsbD i = true := by decide
  constructor
  · intro h
    apply BitVec.eq_of_getLsbD_eq
    intro i hi
    have h2 := congrArg (fun v => v.getLsbD i) h
    simp only [BitVec.getLsbD_and, BitVec.getLsbD_xor, e1 i hi, BitVec.getLsbD_zero] at h2 ⊢
    revert h2
    cases a.getLsbD i <;> cases c.getLsbD i <;> decide
  · intro h
    apply BitVec.eq_of_getLsbD_eq
    intro i hi
    have h2 := congrArg (fun v => v.getLsbD i) h
    simp only [BitVec.getLsbD_and, BitVec.getLsbD_xor, e1 i hi, BitVec.getLsbD_zero] at h2 ⊢
    revert h2
    cases a.getLsbD i <;> cases c.getLsbD i <;> decide
theorem sem_nt {A C Z : Int} (h1 : -9223372036854775808 ≤ A) (h2 : A ≤ 9223372036854775807) (hZ : sxSem T 14 C (-1) = Z) : sxSem T 12 A Z = 0 ↔ sxSem T 12 A C = A := by
  subst hZ
  show (Int64.ofInt A &&& Int64.ofInt (Int64.ofInt C ^^^ Int64.ofInt (-1)).toInt).toInt = 0 ↔ (Int64.ofInt A &&& Int64.ofInt C).toInt = A
  rw [Int64.ofInt_toInt]
  have hA : (Int64.ofInt A).toInt = A := Int64.toInt_ofInt_of_le (by omega) (by omega)
  constructor
  · intro h
    have k1 : (Int64.ofInt A).toBitVec &&& ((Int64.ofInt C).toBitVec ^^^ 18446744073709551615#64) = 0#64 := BitVec.eq_of_toInt_eq h
    have k3 : Int64.ofInt A &&& Int64.ofInt C = Int64.ofInt A := Int64.toBitVec_inj.mp ((bit_nt _ _).mp k1)
    rw [k3, hA]
  · intro h
    have k3 : Int64.ofInt A &&& Int64.ofInt C = Int64.ofInt A := Int64.toInt_inj.mp (h.trans hA.symm)
    have k2 : (Int64.ofInt A).toBitVec &&& (Int64.ofInt C).toBitVec = (Int64.ofInt A).toBitVec := congrArg Int64.toBitVec k3
    have k1 := (bit_nt _ _).mpr k2
    show ((Int64.ofInt A).toBitVec &&& ((Int64.ofInt C).toBitVec ^^^ 18446744073709551615#64)).toInt = 0
    rw [k1]
    rfl
theorem rwBt1_ok {q : Nat × sxN × sxN × sxN} (hB : sxBR T σ B) (hq : sxFt T σ q) : sxBR T σ (rwBt1 B q) := by
  obtain ⟨A, Z, X, e1, e2, e3, e4⟩ := hq
  unfold rwBt1
  split
  · exact hB
  rename_i h1
  rw [Nat.eq_of_beq_eq_true h1] at e4
  split
  · exact hB
  rename_i c hc
  obtain ⟨C, c1, c2⟩ := rwNt_ok hB (sxNm_ok hB e2) hc hB.2.2.2.2
  split
  · exact hB
  rename_i hr
  have hr := sxBtw_ok hB hr e1
  have key := sem_nt (T := T) hr.1 hr.2 c2
  split
  · exact hB
  rename_i u hu
  have hu : sxNR σ u (sxSem T 12 A C) := by
    split at hu
    · rename_i u1 h2
      cases hu
      exact sxFl_ok hB h2 hB.2.2.2.2 (sxNm_ok hB e1) (sxNm_ok hB c1)
    · rw [sem_cm (by decide)]
      exact sxFl_ok hB hu hB.2.2.2.2 (sxNm_ok hB c1) (sxNm_ok hB e1)
  split
  · rename_i h2
    have h3 := sxNm_ok hB e3
    rw [sxSame_ok h2] at h3
    have h3 := sxN0 hB h3
    rw [key.mp (e4.trans h3)] at hu
    exact sxEqX_ok hB hu e1
  · split
    · rename_i h2
      have h3 : X ≠ 0 := by
        split at h2
        · rename_i h4
          have := sxNot_ok hB h4 e3
          omega
        · exact sxNeq_ok hB e3 h2 hB.2.2.2.2
      refine sxPut_ok hB hu e1 ?_
      have : sxSem T 21 (sxSem T 12 A C) A = 1 := by
        show (if sxSem T 12 A C = A then (0 : Int) else 1) = 1
        rw [if_neg (fun h => h3 (e4.symm.trans (key.mpr h)))]
      rw [this]
      exact sxNR.c0 hB 1
    · exact hB
theorem rwBtL_ok : ∀ {F : sxF} {B : sxB}, (∀ q ∈ F, sxFt T σ q) → sxBR T σ B → sxBR T σ (rwBtL F B)
  | [], _, _, hB => hB
  | q :: r, B, hF, hB => by
    rw [rwBtL_c]
    rw [sxBn_eq]
    exact rwBtL_ok (fun q hq => hF q (List.mem_cons_of_mem _ hq)) (rwBt1_ok hB (hF q List.mem_cons_self))
theorem rwB6L_ok : ∀ {F : sxF} {B : sxB}, (∀ q ∈ F, sxFt T σ q) → sxBR T σ B → sxBR T σ (rwB6L F B)
  | [], _, _, hB => hB
  | q :: r, B, hF, hB => by
    have hr : ∀ q ∈ r, sxFt T σ q := fun q hq => hF q (List.mem_cons_of_mem _ hq)
    rw [rwB6L_c]
    split
    · rename_i h1
      rw [sxBn_eq]
      obtain ⟨a, b, z, e1, e2, e3, e4⟩ := hF q List.mem_cons_self
      rw [Nat.eq_of_beq_eq_true h1] at e4
      subst e4
      exact rwB6L_ok hr (sxR6_ok hB e1 e2 e3)
    · exact rwB6L_ok hr hB
theorem uL_sm {x : Int64} {n : Nat} (h : uL x.toInt = n) (hn : n < 9223372036854775808) : x.toInt = n := by
  have h1 := i64_rg x
  unfold uL at h
  omega
theorem sh_ix : (List.range 64).all (fun n => decide (((Int32.ofInt (n : Int)).toInt64.toUInt64 &&& Int64.toUInt64 63).toNat = n)) = true := by decide +kernel
theorem sh_bitu (x : Int) (c : Int) (h0 : 0 ≤ c) (h1 : c ≤ 63) : sxSem T 12 (sxSem T 18 x c) 1 = ((uL x / 2 ^ c.toNat % 2 : Nat) : Int) := by
  have hj := of_decide_eq_true (List.all_eq_true.mp sh_ix c.toNat (List.mem_range.mpr (by omega)))
  rw [show ((c.toNat : Nat) : Int) = c by omega] at hj
  have k1 : uL (sxSem T 18 x c) = uL x / 2 ^ c.toNat := by
    have := u18 (T := T) (a := x) (k := c) _ rfl (by rw [hj]; omega)
    rw [hj] at this
    exact this
  have k2 : uL (sxSem T 12 (sxSem T 18 x c) 1) = uL x / 2 ^ c.toNat % 2 := by
    rw [u12, k1, show uL 1 = 1 from rfl, Nat.and_one_is_mod]
  have k3 : uL x / 2 ^ c.toNat % 2 < 2 := Nat.mod_lt _ (by decide)
  exact uL_sm (x := Int64.ofInt (sxSem T 18 x c) &&& Int64.ofInt 1) k2 (by omega)
theorem rwSh_ok {a : sxN} {A : Int} {f : sxN × sxN} (hB : sxBR T σ B) (ha : sxNR σ a A) : ∀ {F : sxF}, rwSh B a F = some f → (∀ q ∈ F, sxFt T σ q) → ∃ X C, sxNR σ f.1 X ∧ sxNR σ f.2 C ∧ (0 ≤ C ∧ C ≤ 63) ∧ (A = sxSem T 17 X C ∨ A = sxSem T 18 X C)
  | [], h, _ => by cases h
  | q :: r, h, hF => by
    have hr : ∀ q ∈ r, sxFt T σ q := fun q hq => hF q (List.mem_cons_of_mem _ hq)
    rw [rwSh_c] at h
    split at h
    · exact rwSh_ok hB ha h hr
    rename_i h1
    split at h
    · exact rwSh_ok hB ha h hr
    rename_i h2
    split at h
    · rename_i h3
      cases h
      obtain ⟨x, c, z, e1, e2, e3, e4⟩ := hF q List.mem_cons_self
      have h2 := sxEqv_ok hB h2 e3 ha
      refine ⟨x, c, e1, e2, sxBtw_ok hB h3 e2, ?_⟩
      rw [Bool.or_eq_true] at h1
      rcases h1 with h1 | h1
      · rw [Nat.eq_of_beq_eq_true h1] at e4
        exact Or.inl (by rw [← h2, ← e4])
      · rw [Nat.eq_of_beq_eq_true h1] at e4
        exact Or.inr (by rw [← h2, ← e4])
    · exact rwSh_ok hB ha h hr
theorem rwId1_ok {q : Nat × sxN × sxN × sxN} (hB : sxBR T σ B) (hq : sxFt T σ q) : sxBR T σ (rwId1 B q) := by
  obtain ⟨A, C, X, e1, e2, e3, e4⟩ := hq
  have num : ∀ {v : Int}, sxSame (sxNm B q.2.2.1) (0, v) = true → C = v := by
    intro v h
    have h2 := sxNm_ok hB e2
    rw [sxSame_ok h] at h2
    exact sxN0 hB h2
  unfold rwId1
  split
  · rename_i h1
    rw [Nat.eq_of_beq_eq_true h1] at e4
    split
    · rename_i h2
      have h2 := num h2
      split
      · rename_i h3
        have h3 := sxBtw_ok hB h3 e1
        have e : X = A := by
          rw [← e4, h2]
          show (Int64.ofInt A &&& Int64.ofInt (-1)).toInt = A
          have k : Int64.ofInt A &&& Int64.ofInt (-1) = Int64.ofInt A := by
            apply Int64.toBitVec_inj.mp
            show (Int64.ofInt A).toBitVec &&& 18446744073709551615#64 = _
            rw [show (18446744073709551615#64) = BitVec.allOnes 64 from rfl, BitVec.and_allOnes]
          rw [k]
          exact Int64.toInt_ofInt_of_le (by omega) (by omega)
        rw [e] at e3
        exact sxEqX_ok hB e3 e1
      · exact hB
    · split
      · rename_i h2
        have h2 := num h2
        split
        · rename_i f hf
          obtain ⟨Y, D, f1, f2, ⟨f3, f4⟩, f5⟩ := rwSh_ok hB (sxNm_ok hB e1) hf hB.2.2.2.2
          refine sxPut_ok hB f1 f2 ?_
          have e : sxSem T 23 Y D = X := by
            rw [← e4, h2]
            rcases f5 with f5 | f5
            · rw [f5, sh_bit _ _ f3 f4]
              rfl
            · rw [f5, sh_bitu _ _ f3 f4]
              rfl
          rw [e]
          exact e3
        · exact hB
      · exact hB
  split
  · rename_i h1
    rw [Nat.eq_of_beq_eq_true h1] at e4
    split
    · rename_i z hz
      split
      · exact hB
      · have hz := sxFl_ok hB hz hB.2.2.2.2 (sxNm_ok hB e1) (sxNm_ok hB e2)
        rw [e4] at hz
        exact sxEqX_ok hB hz e3
    · exact hB
  split
  · rename_i h1
    rw [Nat.eq_of_beq_eq_true h1] at e4
    split
    · rename_i h2
      have h2 := num h2
      split
      · rename_i h3
        have h3 := sxBtw_ok hB h3 e1
        have e : X = A := by
          rw [← e4, h2]
          show (Int32.ofInt A ||| Int32.ofInt 0).toInt = A
          rw [show Int32.ofInt 0 = 0 from rfl, Int32.or_zero]
          exact i32_of (by omega) (by omega)
        rw [e] at e3
        exact sxEqX_ok hB e3 e1
      · exact hB
    · exact hB
  split
  · rename_i h1
    rw [Nat.eq_of_beq_eq_true h1] at e4
    split
    · rename_i h2
      have h2 := num h2
      split
      · rename_i h3
        have h3 := sxBtw_ok hB h3 e1
        have e : X = A := by
          rw [← e4, h2]
          show (Int64.ofInt A ||| Int64.ofInt 0).toInt = A
          rw [show Int64.ofInt 0 = 0 from rfl, Int64.or_zero]
          exact Int64.toInt_ofInt_of_le (by omega) (by omega)
        rw [e] at e3
        exact sxEqX_ok hB e3 e1
      · exact hB
    · exact hB
  · exact hB
theorem rwIdL_ok : ∀ {F : sxF} {B : sxB}, (∀ q ∈ F, sxFt T σ q) → sxBR T σ B → sxBR T σ (rwIdL F B)
  | [], _, _, hB => hB
  | q :: r, B, hF, hB => by
    rw [rwIdL_c]
    rw [sxBn_eq]
    exact rwIdL_ok (fun q hq => hF q (List.mem_cons_of_mem _ hq)) (rwId1_ok hB (hF q List.mem_cons_self))
theorem rwBt_ok (hB : sxBR T σ B) : sxBR T σ (rwBt B) := by
  have h := rwBtL_ok hB.2.2.2.2 hB
  have h2 := rwIdL_ok h.2.2.2.2 h
  unfold rwBt
  rw [sxBn_eq, sxBn_eq]
  exact rwB6L_ok h2.2.2.2.2 h2
/-! sets of SLIPS -/
theorem cmVw {s : Nat} (hl : H.length = 579) (h : cmQ T s H) : sxVw (ghL T V) scr 579 H (579 + 1) s = some (.int 1) := by
  unfold sxVw
  rw [if_neg (by decide), if_neg (by decide), if_neg (by decide), if_pos rfl]
  show cmB T ((s, []) :: H) = _
  rw [cmB_at hl]
  exact ghB_of h
theorem cmVw_iff {s : Nat} {v : Value} (hl : H.length = 579) (h : sxVw (ghL T V) scr 579 H (579 + 1) s = some v) : cmQ T s H := by
  unfold sxVw at h
  rw [if_neg (by decide), if_neg (by decide), if_neg (by decide), if_pos rfl] at h
  have h : cmB T ((s, []) :: H) = some v := h
  rw [cmB_at hl] at h
  exact (ghB_iff h).1
theorem cmA1_ok {x : sxN} {X : Int} (hB : sxBR T σ B) (hl : H.length = 579) (hx : sxNR σ x X) : ∀ {O : sxO}, sxOR (sxVw (ghL T V) scr 579 H) σ O → cmA1 579 B x O = true → cmQ T X.toNat H
  | [], _, h => by cases h
  | q :: r, hO, h => by
    unfold cmA1 at h
    split at h
    · rename_i hc
      rw [Bool.and_eq_true, Bool.and_eq_true] at hc
      obtain ⟨c1, c2, c3⟩ := hc
      have c1 := Nat.eq_of_beq_eq_true c1
      obtain ⟨z, v, z1, z2, z3, z4⟩ := hO q List.mem_cons_self
      have z1 := sxNm_ok hB z1
      rw [sxSame_ok c2] at z1
      rw [sxNR.un hx z1]
      rw [c1] at z3
      exact cmVw_iff hl z3
    · exact cmA1_ok hB hl hx (fun q hq => hO q (List.mem_cons_of_mem _ hq)) h
theorem cmNew_ok {t : Nat} {vs : List Value} {x : sxN} {X : Int} {w : Value} (hB : sxBR T σ B) (hO : sxOR (sxVw (ghL T V) scr 579 H) σ O) (hl : H.length = 579) (hi : H[i]? = some (t, vs)) (hx : sxNR σ x X) (h0 : 0 ≤ X) (hX : X.toNat < vs.length) (ha : sxVR σ a w) : sxOR (sxVw (ghL T V) scr 579 (H.set i (t, vs.set X.toNat w))) σ (cmNew 579 B O i x a) := by
  unfold cmNew
  split
  · exact gNil
  rename_i ei
  have ei := Nat.eq_of_beq_eq_true ei
  subst ei
  split
  · rename_i v
    split
    · rename_i u hu
      split
      · rename_i hc
        rw [Bool.and_eq_true, Bool.or_eq_true] at hc
        obtain ⟨c1, c2⟩ := hc
        have hu := sxG1_ok hB hu hx
        obtain ⟨y, rfl, hy⟩ := ha
        have c1 := sxEqv_ok hB c1 hu (sxNm_ok hB hy)
        have below : cmQ T X.toNat H := by
          rcases c2 with c2 | c2
          · rw [sxSame_ok c2] at hx
            have e := sxN0 hB hx
            intro k hk
            omega
          · exact cmA1_ok hB hl hx hO c2
        have hq : cmQ T (X.toNat + 1) (H.set 46 (t, vs.set X.toNat (.long y))) := by
          intro k hk
          by_cases e : k = X.toNat
          · subst e
            unfold rwEl
            rw [gSetS hi hX]
            show some y.toInt = some (tCM T ((X.toNat : Nat) : Int) 12)
            rw [← c1, show ((X.toNat : Nat) : Int) = X by omega]
            rfl
          · rw [gSameZ hi (fun hc => e hc.2)]
            exact below k (by omega)
        have hl2 : (H.set 46 (t, vs.set X.toNat (.long y))).length = 579 := by rw [List.length_set, hl]
        intro q hq2
        rw [List.mem_singleton] at hq2
        subst hq2
        refine ⟨X + 1, .int 1, sxNR.off hx 1, by omega, ?_, ⟨1, rfl, 0, hB.1.2, by decide⟩⟩
        show sxVw (ghL T V) scr 579 (H.set 46 (t, vs.set X.toNat (.long y))) (579 + 1) (X + 1).toNat = some (.int 1)
        rw [show (X + 1).toNat = X.toNat + 1 by omega]
        exact cmVw hl2 hq
      · exact gNil
    · exact gNil
  · exact gNil
theorem cmR1_ok {x : sxN} {X : Int} (hB : sxBR T σ B) (hl : H.length = 579) (hx : sxNR σ x X) (h0 : 0 ≤ X) : ∀ {O : sxO}, sxOR (sxVw (ghL T V) scr 579 H) σ O → cmR1 579 B x O = true → rwEl H 46 X.toNat = some (tCM T X 12)
  | [], _, h => by cases h
  | q :: r, hO, h => by
    unfold cmR1 at h
    split at h
    · rename_i hc
      rw [Bool.and_eq_true, Bool.and_eq_true] at hc
      obtain ⟨c1, c2, c3⟩ := hc
      have c1 := Nat.eq_of_beq_eq_true c1
      obtain ⟨z, v, z1, z2, z3, z4⟩ := hO q List.mem_cons_self
      have c3 := sxLe_ok hB c3 hx z1
      rw [c1] at z3
      have h1 := cmVw_iff hl z3 X.toNat (by omega)
      rw [show ((X.toNat : Nat) : Int) = X by omega] at h1
      exact h1
    · exact cmR1_ok hB hl hx h0 (fun q hq => hO q (List.mem_cons_of_mem _ hq)) h
theorem cmRdO_ok (hl : H.length = 579) {O0 : sxO} (hO0 : sxOR (sxVw (ghL T V) scr 579 H) σ O0) : ∀ {O : sxO} {B : sxB}, sxOR (sxVw (ghL T V) scr 579 H) σ O → sxBR T σ B → sxBR T σ (cmRdO 579 O0 O B)
  | [], _, _, hB => hB
  | q :: l, B, hO, hB => by
    have hr : sxOR (sxVw (ghL T V) scr 579 H) σ l := fun q hq => hO q (List.mem_cons_of_mem _ hq)
    unfold cmRdO
    split
    · exact cmRdO_ok hl hO0 hr hB
    rename_i e
    have e := Nat.eq_of_beq_eq_true e
    split
    · rename_i v hv
      split
      · rename_i hc
        rw [Bool.and_eq_true] at hc
        obtain ⟨z, u, z1, z2, z3, z4⟩ := hO q List.mem_cons_self
        rw [e] at z3
        rw [hv] at z4
        obtain ⟨wz, w1, w2⟩ := rwEl_of (k := 0) (by decide) z3 z4
        have h1 := cmR1_ok hB hl z1 z2 hO0 hc.2
        rw [w1] at h1
        rw [sxBn_eq]
        refine cmRdO_ok hl hO0 hr (sxPut_ok hB z1 (sxNR.c0 hB 0) ?_)
        rw [show sxSem T 66 z 0 = tCM T z 12 from rfl, ← Option.some.inj h1]
        exact w2
      · exact cmRdO_ok hl hO0 hr hB
    · exact cmRdO_ok hl hO0 hr hB
theorem cmNmO_ok (hB : sxBR T σ B) {vw : Nat → Nat → Option Value} : ∀ {O : sxO}, sxOR vw σ O → sxOR vw σ (cmNmO 579 B O)
  | [], _ => fun q hq => by cases hq
  | q :: r, hO => by
    intro p hp
    have hp : p = (match Nat.beq q.1 (579 + 1) with | true => (q.1, sxNm B q.2.1, q.2.2) | false => q) ∨ p ∈ cmNmO 579 B r := List.mem_cons.mp hp
    rcases hp with hp | hp
    · obtain ⟨z, v, z1, z2, z3, z4⟩ := hO q List.mem_cons_self
      split at hp
      · rw [hp]
        exact ⟨z, v, sxNm_ok hB z1, z2, z3, z4⟩
      · rw [hp]
        exact ⟨z, v, z1, z2, z3, z4⟩
    · exact cmNmO_ok hB (fun q hq => hO q (List.mem_cons_of_mem _ hq)) p hp
theorem cmS0_ok {x : sxN} {c X : Int} (hB : sxBR T σ B) (h : sxSame (sxNm B x) (0, c) = true) (hx : sxNR σ x X) : X = c := by
  have h1 := sxNm_ok hB hx
  rw [sxSame_ok h] at h1
  exact sxN0 hB h1
theorem cmIs_ok {t : Option sxN} {c Z : Int} (hB : sxBR T σ B) (h : cmIs B t c = true) (ht : ∀ u, t = some u → sxNR σ u Z) : Z = c := by
  cases t with
  | none => exact absurd (show false = true from h) (by decide)
  | some u => exact cmS0_ok hB (show sxSame (sxNm B u) (0, c) = true from h) (ht u rfl)
theorem sem_cmI {A K : Int} (h0 : 0 ≤ K) : sxSem T 2 (sxSem T 7 A K) 1 = cmI A K.toNat := by
  show (Int32.ofInt (Int32.ofInt A >>> (Int32.ofInt K &&& 31)).toInt &&& Int32.ofInt 1).toInt = (Int32.ofInt (Int32.ofInt A >>> (Int32.ofInt ((K.toNat : Nat) : Int) &&& 31)).toInt &&& Int32.ofInt 1).toInt
  rw [show ((K.toNat : Nat) : Int) = K by omega]
theorem cmT_ok {x k t : sxN} {A K : Int} (hB : sxBR T σ B) (h : cmT B x k = some t) (hx : sxNR σ x A) (hk : sxNR σ k K) (h0 : 0 ≤ K) : sxNR σ t (cmI A K.toNat) := by
  unfold cmT at h
  split at h
  · cases h
  · rename_i u hu
    have hu := flV_ok hB hu (sxNm_ok hB hx) (sxNm_ok hB hk)
    have h1 := flV_ok hB h (sxNm_ok hB hu) (sxNR.c0 hB 1)
    rw [sem_cmI h0] at h1
    exact h1
theorem cmAnd_ok {x y w : sxN} {X Y : Int} (hB : sxBR T σ B) (h : cmAnd B x y = some w) (hx : sxNR σ x X) (hy : sxNR σ y Y) : sxNR σ w (sxSem T 12 X Y) := by
  unfold cmAnd at h
  split at h
  · rename_i w1 h1
    cases h
    exact sxFl_ok hB h1 hB.2.2.2.2 hx hy
  · rw [sem_cm (by decide)]
    exact sxFl_ok hB h hB.2.2.2.2 hy hx
theorem cmEq_ok (f : Nat → Bool) : ∀ {F : sxF} {B : sxB}, (∀ q ∈ F, sxFt T σ q) → sxBR T σ B → sxBR T σ (cmEq f F B)
  | [], _, _, hB => hB
  | q :: r, B, hF, hB => by
    have hr : ∀ q ∈ r, sxFt T σ q := fun q hq => hF q (List.mem_cons_of_mem _ hq)
    unfold cmEq
    split
    · exact cmEq_ok f hr hB
    split
    · exact cmEq_ok f hr hB
    · rename_i z hz
      obtain ⟨A, C, Z, e1, e2, e3, e4⟩ := hF q List.mem_cons_self
      have hz := sxFl_ok hB hz hB.2.2.2.2 (sxNm_ok hB e1) (sxNm_ok hB e2)
      rw [e4] at hz
      split
      · exact cmEq_ok f hr hB
      · rw [sxBn_eq]
        exact cmEq_ok f hr (sxEqX_ok hB hz e3)
theorem cm68_ok : ∀ {F : sxF} {B : sxB}, (∀ q ∈ F, sxFt T σ q) → sxBR T σ B → sxBR T σ (cm68 F B)
  | [], _, _, hB => hB
  | q :: r, B, hF, hB => by
    have hr : ∀ q ∈ r, sxFt T σ q := fun q hq => hF q (List.mem_cons_of_mem _ hq)
    unfold cm68
    split
    · rename_i e
      obtain ⟨A, C, Z, e1, e2, e3, e4⟩ := hF q List.mem_cons_self
      rw [Nat.eq_of_beq_eq_true e] at e4
      rw [sxBn_eq]
      refine cm68_ok hr (sxPut_ok hB (sxNR.c0 hB 0) (sxNR.c0 hB 0) ?_)
      have e5 : tUl T 64 = Z := e4
      have e6 : tCM T ((0 : Nat) : Int) 12 = tCM T ((0 : Nat) : Int) 0 := tCM_lt (k := 0) (by decide) (by decide)
      have e7 : sxSem T 66 0 0 = Z := by
        rw [← e5]
        exact e6
      rw [e7]
      exact e3
    · exact cm68_ok hr hB
theorem cm67o_ok {q : Nat × sxN × sxN × sxN} {A K Z : Int} (hB : sxBR T σ B) (e1 : sxNR σ q.2.1 A) (e2 : sxNR σ q.2.2.1 K) (e3 : sxNR σ q.2.2.2 Z) (e4 : tCM T A K.toNat = Z) : sxBR T σ (cm67o q B) := by
  unfold cm67o
  split
  · rename_i c hc
    have hk := sxNm_ok hB e2
    rw [hc] at hk
    have hk := sxN0 hB hk
    split
    · rename_i h
      rw [Bool.and_eq_true] at h
      have h1 := Nat.le_of_ble_eq_true h.1
      have h2 := sxBtw_ok hB h.2 e1
      simp only [Int.ofNat_eq_natCast] at hk h2
      have hp := Nat.two_pow_pos c
      have e5 : tCM T ((A.toNat : Nat) : Int) 12 = tCM T ((A.toNat : Nat) : Int) c := tCM_lt h1 (by omega)
      rw [show ((A.toNat : Nat) : Int) = A by omega] at e5
      refine sxPut_ok hB e1 (sxNR.c0 hB 0) ?_
      rw [show sxSem T 66 A 0 = tCM T A 12 from rfl, e5, show c = K.toNat by omega, e4]
      exact e3
    · exact hB
  · exact hB
theorem cm67n_ok {q : Nat × sxN × sxN × sxN} {A K Z : Int} (hB : sxBR T σ B) (e1 : sxNR σ q.2.1 A) (e2 : sxNR σ q.2.2.1 K) (e3 : sxNR σ q.2.2.2 Z) (e4 : tCM T A K.toNat = Z) : sxBR T σ (cm67n q B) := by
  unfold cm67n
  split
  · exact hB
  rename_i h1
  have h1 := sxBtw_ok hB h1 e2
  have et : (K + 1).toNat = K.toNat + 1 := by omega
  have step : sxSem T 67 A (K + 1) = if cmI A K.toNat = 1 then (Int64.ofInt (tCM T A K.toNat) &&& Int64.ofInt (tUl T K.toNat)).toInt else tCM T A K.toNat := by
    show tCM T A (K + 1).toNat = _
    rw [et, tCM_s]
  split
  · exact hB
  rename_i t ht
  have ht := cmT_ok hB ht e1 e2 h1.1
  split
  · rename_i h2
    have h2 := cmS0_ok hB h2 ht
    refine sxPut_ok hB e1 (sxNR.off e2 1) ?_
    rw [step, if_neg (by rw [h2]; decide), e4]
    exact e3
  split
  · exact hB
  rename_i h2
  have h2 := cmS0_ok hB h2 ht
  split
  · exact hB
  rename_i m hm
  have hm := sxFl_ok hB hm hB.2.2.2.2 (sxNm_ok hB e2) (sxNR.c0 hB 0)
  split
  · exact hB
  rename_i w hw
  have hw := cmAnd_ok hB hw (sxNm_ok hB e3) (sxNm_ok hB hm)
  refine sxPut_ok hB e1 (sxNR.off e2 1) ?_
  rw [step, if_pos h2, e4]
  exact hw
theorem cm67_ok : ∀ {F : sxF} {B : sxB}, (∀ q ∈ F, sxFt T σ q) → sxBR T σ B → sxBR T σ (cm67 F B)
  | [], _, _, hB => hB
  | q :: r, B, hF, hB => by
    have hr : ∀ q ∈ r, sxFt T σ q := fun q hq => hF q (List.mem_cons_of_mem _ hq)
    unfold cm67
    split
    · rename_i e
      obtain ⟨A, K, Z, e1, e2, e3, e4⟩ := hF q List.mem_cons_self
      rw [Nat.eq_of_beq_eq_true e] at e4
      have e4 : tCM T A K.toNat = Z := e4
      rw [sxBn_eq, sxBn_eq]
      exact cm67_ok hr (cm67n_ok (cm67o_ok hB e1 e2 e3 e4) e1 e2 e3 e4)
    · exact cm67_ok hr hB
theorem cm66_ok {v : sxN} {q p : Nat × sxN × sxN × sxN} {A Z : Int} (e1 : sxNR σ q.2.1 A) (ev : sxNR σ v Z) (e4 : tCM T A 12 = Z) (hB : sxBR T σ B) (hp : sxFt T σ p) : sxBR T σ (cm66 v q p B) := by
  obtain ⟨K, C, M, p1, p2, p3, p4⟩ := hp
  unfold cm66
  split
  · exact hB
  rename_i h0
  rw [Nat.eq_of_beq_eq_true h0] at p4
  split
  · rename_i c hc
    have hk := sxNm_ok hB p1
    rw [hc] at hk
    have hk := sxN0 hB hk
    split
    · exact hB
    rename_i h
    rw [Bool.and_eq_true] at h
    have h1 := bltOk h.1
    have h2 := sxBtw_ok hB h.2 e1
    split
    · exact hB
    rename_i w hw
    have hw := cmAnd_ok hB hw ev (sxNm_ok hB p3)
    simp only [Int.ofNat_eq_natCast] at hk h2
    have hp := Nat.two_pow_pos c
    have e5 := tCM_add (T := T) (n := A.toNat) (k := c) h1 (by omega)
    have e6 : ((A.toNat + 2 ^ c : Nat) : Int) = A + Int.ofNat (2 ^ c) := by
      simp only [Int.ofNat_eq_natCast]
      omega
    rw [e6, show ((A.toNat : Nat) : Int) = A by omega] at e5
    have e7 : tUl T c = M := by
      have e8 : tUl T K.toNat = M := p4
      rw [show c = K.toNat by omega]
      exact e8
    refine sxPut_ok hB (sxNR.off e1 (Int.ofNat (2 ^ c))) (sxNR.c0 hB 0) ?_
    rw [show sxSem T 66 (A + Int.ofNat (2 ^ c)) 0 = tCM T (A + Int.ofNat (2 ^ c)) 12 from rfl, e5, e4, e7]
    exact hw
  · exact hB
theorem cm66p_ok {v : sxN} {q : Nat × sxN × sxN × sxN} {A Z : Int} (e1 : sxNR σ q.2.1 A) (ev : sxNR σ v Z) (e4 : tCM T A 12 = Z) : ∀ {F : sxF} {B : sxB}, (∀ p ∈ F, sxFt T σ p) → sxBR T σ B → sxBR T σ (cm66p v q F B)
  | [], _, _, hB => hB
  | p :: r, B, hF, hB => by
    unfold cm66p
    rw [sxBn_eq]
    exact cm66p_ok e1 ev e4 (fun p hp => hF p (List.mem_cons_of_mem _ hp)) (cm66_ok e1 ev e4 hB (hF p List.mem_cons_self))
theorem cm66q_ok : ∀ {F : sxF} {B : sxB}, (∀ q ∈ F, sxFt T σ q) → sxBR T σ B → sxBR T σ (cm66q F B)
  | [], _, _, hB => hB
  | q :: r, B, hF, hB => by
    have hr : ∀ q ∈ r, sxFt T σ q := fun q hq => hF q (List.mem_cons_of_mem _ hq)
    unfold cm66q
    split
    · rename_i e
      obtain ⟨A, K, Z, e1, e2, e3, e4⟩ := hF q List.mem_cons_self
      rw [Nat.eq_of_beq_eq_true e] at e4
      have e4 : tCM T A 12 = Z := e4
      rw [sxBn_eq]
      exact cm66q_ok hr (cm66p_ok e1 (sxNm_ok hB e3) e4 hB.2.2.2.2 hB)
    · exact cm66q_ok hr hB
theorem cmCom_ok (hB : sxBR T σ B) : sxBR T σ (cmCom B) := by
  have h1 := cm68_ok hB.2.2.2.2 hB
  have h2 := cm67_ok h1.2.2.2.2 h1
  have h3 := cm66q_ok h2.2.2.2.2 h2
  unfold cmCom
  rw [sxBn_eq, sxBn_eq, sxBn_eq]
  exact cmEq_ok _ h3.2.2.2.2 h3
theorem cmNat {x : Int} {lo hi : Int} (h : lo ≤ x ∧ x ≤ hi) (h0 : 0 ≤ lo) : ((x.toNat : Nat) : Int) = x := by omega
theorem sem6 {K : Int} (h0 : 0 ≤ K) : sxSem T 6 1 K = tSh K.toNat := fl_sh h0
theorem sem3 {A K : Int} : sxSem T 3 A (tSh K.toNat) = cmS A K.toNat := rfl
theorem cmOrP_ok {q : Nat × sxN × sxN × sxN} {A Y Z : Int} (e1 : sxNR σ q.2.1 A) (e2 : sxNR σ q.2.2.1 Y) (e3 : sxNR σ q.2.2.2 Z) (e4 : sxSem T 3 A Y = Z) : ∀ {F : sxF} {B : sxB}, (∀ p ∈ F, sxFt T σ p) → sxBR T σ B → sxBR T σ (cmOrP q F B)
  | [], _, _, hB => hB
  | p :: r, B, hF, hB => by
    have hr : ∀ p ∈ r, sxFt T σ p := fun p hp => hF p (List.mem_cons_of_mem _ hp)
    unfold cmOrP
    split
    · exact cmOrP_ok e1 e2 e3 e4 hr hB
    rename_i h
    simp only [Bool.and_eq_true] at h
    obtain ⟨h1, h2, h3, h4, h5⟩ := h
    obtain ⟨P, K, W, p1, p2, p3, p4⟩ := hF p List.mem_cons_self
    rw [Nat.eq_of_beq_eq_true h1, cmS0_ok hB h2 p1] at p4
    have h3 := sxEqv_ok hB h3 p3 (sxNm_ok hB e2)
    have h4 := sxBtw_ok hB h4 p2
    have h5 := sxBtw_ok hB h5 e1
    have eY : Z = cmS A K.toNat := by
      rw [← e4, ← h3, ← p4, sem6 h4.1]
      rfl
    have eA := cmNat h5 (by decide)
    split
    · exact cmOrP_ok e1 e2 e3 e4 hr hB
    rename_i t ht
    have ht := cmT_ok hB ht e1 p2 h4.1
    split
    · rename_i h6
      have h6 := cmS0_ok hB h6 ht
      rw [sxBn_eq]
      refine cmOrP_ok e1 e2 e3 e4 hr (sxEqX_ok hB e3 ?_)
      have h7 := (cmS_in (r := A.toNat) (k := K.toNat) (by omega) (by omega)).mpr (by rw [eA]; exact h6)
      rw [eA] at h7
      rw [eY, h7]
      exact e1
    split
    · rename_i h6
      have h6 := cmS0_ok hB h6 ht
      rw [sxBn_eq]
      refine cmOrP_ok e1 e2 e3 e4 hr (sxLeX_ok hB e1 e3 ?_)
      have h7 := cmS_up (r := A.toNat) (k := K.toNat) (by omega) (by omega) (by rw [eA]; exact h6)
      rw [eA] at h7
      omega
    · exact cmOrP_ok e1 e2 e3 e4 hr hB
theorem cmPc1_ok {q : Nat × sxN × sxN × sxN} (hB : sxBR T σ B) (hq : sxFt T σ q) : sxBR T σ (cmPc1 B q) := by
  obtain ⟨A, C, Z, e1, e2, e3, e4⟩ := hq
  unfold cmPc1
  split
  · rename_i c hc
    have h1 := sxCst_ok hB hc (sxNm_ok hB e1) (sxNm_ok hB e2)
    rw [e4] at h1
    rw [h1] at e3
    exact sxEqX_ok hB e3 (sxNR.c0 hB c)
  split
  · exact hB
  rename_i h
  simp only [Bool.and_eq_true] at h
  obtain ⟨h1, h2, h3⟩ := h
  have h2 := cmS0_ok hB h2 e2
  rw [Nat.eq_of_beq_eq_true h1, h2] at e4
  have h3 := sxBtw_ok hB h3 e1
  obtain ⟨f1, f2, f3⟩ := tPc_of (T := T) h3.1 h3.2
  rw [f1] at e4
  rw [sxBn_eq, sxBn_eq]
  have hB1 := sxLeX_ok (c := 0) hB e3 (sxNR.c0 hB 12) (by omega)
  have hB2 := sxLeX_ok (c := 0) hB1 (sxNR.c0 hB1 0) e3 (by omega)
  split
  · exact hB2
  rename_i z hz
  have hz := sxFl_ok hB2 hz hB2.2.2.2.2 (sxNm_ok hB2 e1) (sxNR.c0 hB2 0)
  rw [f2, e4] at hz
  split
  · exact hB2
  · exact sxEqX_ok hB2 hz e3
theorem cmOrL_ok : ∀ {F : sxF} {B : sxB}, (∀ q ∈ F, sxFt T σ q) → sxBR T σ B → sxBR T σ (cmOrL F B)
  | [], _, _, hB => hB
  | q :: r, B, hF, hB => by
    have hr : ∀ q ∈ r, sxFt T σ q := fun q hq => hF q (List.mem_cons_of_mem _ hq)
    unfold cmOrL
    split
    · rename_i e
      obtain ⟨A, C, Z, e1, e2, e3, e4⟩ := hF q List.mem_cons_self
      rw [Nat.eq_of_beq_eq_true e] at e4
      rw [sxBn_eq]
      exact cmOrL_ok hr (cmOrP_ok e1 e2 e3 e4 hB.2.2.2.2 hB)
    split
    · rw [sxBn_eq]
      exact cmOrL_ok hr (cmPc1_ok hB (hF q List.mem_cons_self))
    · exact cmOrL_ok hr hB
theorem cmNe_ok {x y : sxN} {X Y : Int} (hB : sxBR T σ B) (hx : sxNR σ x X) (hy : sxNR σ y Y) : ∀ {F : sxF}, (∀ q ∈ F, sxFt T σ q) → cmNe B x y F = true → X ≠ Y
  | [], _, h => by cases h
  | g :: r, hF, h => by
    unfold cmNe at h
    split at h
    · rename_i hc
      simp only [Bool.and_eq_true, Bool.or_eq_true] at hc
      obtain ⟨c1, c2, c3⟩ := hc
      obtain ⟨P, Q, W, g1, g2, g3, g4⟩ := hF g List.mem_cons_self
      rw [Nat.eq_of_beq_eq_true c1, cmS0_ok hB c2 g3] at g4
      have hne : P ≠ Q := fun e => by
        have h1 : (if P = Q then (0 : Int) else 1) = 1 := g4
        rw [if_pos e] at h1
        exact absurd h1 (by decide)
      rcases c3 with ⟨a1, a2⟩ | ⟨a1, a2⟩
      · have a1 := sxEqv_ok hB a1 g1 (sxNm_ok hB hx)
        have a2 := sxEqv_ok hB a2 g2 (sxNm_ok hB hy)
        rw [← a1, ← a2]
        exact hne
      · have a1 := sxEqv_ok hB a1 g2 (sxNm_ok hB hx)
        have a2 := sxEqv_ok hB a2 g1 (sxNm_ok hB hy)
        rw [← a1, ← a2]
        exact fun e => hne e.symm
    · exact cmNe_ok hB hx hy (fun q hq => hF q (List.mem_cons_of_mem _ hq)) h
theorem cmWk_ok {q f : Nat × sxN × sxN × sxN} {n : Nat} {k : sxN} {A K Z : Int} (hB : sxBR T σ B) (e1 : sxNR σ q.2.1 A) (e2 : sxNR σ q.2.2.1 (n : Int)) (f3 : sxNR σ f.2.2.2 Z) (hk : sxNR σ k K) (hn : n ≤ 12) (hZ : 0 ≤ K → Z = cmS A K.toNat) : sxBR T σ (cmWk q n f k B) := by
  unfold cmWk
  split
  · exact hB
  rename_i h
  rw [Bool.and_eq_true] at h
  have h1 := sxBtw_ok hB h.1 hk
  have h2 := sxBtw_ok hB h.2 e1
  simp only [Int.ofNat_eq_natCast] at h1
  have hZ := hZ h1.1
  have eA := cmNat h2 (by decide)
  have hin := cmS_in (r := A.toNat) (k := K.toNat) (by omega) (by omega)
  rw [eA, ← hZ] at hin
  have ht : ∀ u, cmT B q.2.1 k = some u → sxNR σ u (cmI A K.toNat) := fun u hu => cmT_ok hB hu e1 hk h1.1
  split
  · rename_i hc
    simp only [Bool.and_eq_true, Bool.or_eq_true] at hc
    obtain ⟨c1, c2⟩ := hc
    have hout : ¬ cmI A K.toNat = 1 := by
      rcases c1 with c | c | c | c
      · rw [cmIs_ok hB c ht]
        decide
      · intro e
        have h3 := sxLe_ok hB c e1 f3
        have h4 := hin.mpr e
        omega
      · intro e
        have h3 := sxLe_ok hB c f3 e1
        have h4 := hin.mpr e
        omega
      · intro e
        exact cmNe_ok hB f3 e1 hB.2.2.2.2 c (hin.mpr e)
    split at c2
    · rename_i z hz
      have hz := sxFl_ok hB hz hB.2.2.2.2 (sxNm_ok hB f3) (sxNR.c0 hB 0)
      have c2 := flN_ok hB c2 hz
      have c3 : ¬ tCM T (cmS A K.toNat) 12 = 0 := by
        rw [← hZ]
        exact c2
      have w1 : tWo T A (K.toNat + 1) = 0 := by
        rw [tWo_s]
        exact if_neg (fun e => e.elim hout c3)
      have w2 : tWo T A n = 0 := by
        have w3 := tWo_dn w1 (n - (K.toNat + 1))
        rw [show K.toNat + 1 + (n - (K.toNat + 1)) = n by omega] at w3
        exact w3
      refine sxPut_ok hB e1 e2 ?_
      rw [show sxSem T 69 A (n : Int) = tWo T A n from rfl, w2]
      exact sxNR.c0 hB 0
    · cases c2
  split
  · exact hB
  rename_i o ho
  have ho := sxFl_ok hB ho hB.2.2.2.2 (sxNm_ok hB e1) (sxNm_ok hB hk)
  split
  · rename_i hc
    simp only [Bool.or_eq_true] at hc
    have hor : cmI A K.toNat = 1 ∨ tCM T (cmS A K.toNat) 12 = 0 := by
      rcases hc with (c | c) | c
      · exact Or.inl (hin.mp (sxEqv_ok hB c f3 (sxNm_ok hB e1)))
      · exact Or.inl (cmIs_ok hB c ht)
      · refine Or.inr ?_
        rw [← hZ]
        exact cmIs_ok hB c (fun u hu => sxFl_ok hB hu hB.2.2.2.2 (sxNm_ok hB f3) (sxNR.c0 hB 0))
    refine sxPut_ok hB e1 (sxNR.off hk 1) ?_
    have w1 : sxSem T 70 A (K + 1) = sxSem T 70 A K := by
      show tWo T A (K + 1).toNat = tWo T A K.toNat
      rw [show (K + 1).toNat = K.toNat + 1 by omega, tWo_s]
      exact if_pos hor
    rw [w1]
    exact ho
  · exact hB
theorem cmWp_ok {q f : Nat × sxN × sxN × sxN} {n : Nat} {A X Y Z : Int} (e1 : sxNR σ q.2.1 A) (e2 : sxNR σ q.2.2.1 (n : Int)) (hn : n ≤ 12) (f2 : sxNR σ f.2.2.1 Y) (f3 : sxNR σ f.2.2.2 Z) (f4 : sxSem T 3 X Y = Z) (hX : X = A) : ∀ {F : sxF} {B : sxB}, (∀ p ∈ F, sxFt T σ p) → sxBR T σ B → sxBR T σ (cmWp q n f F B)
  | [], _, _, hB => hB
  | p :: r, B, hF, hB => by
    have hr : ∀ p ∈ r, sxFt T σ p := fun p hp => hF p (List.mem_cons_of_mem _ hp)
    unfold cmWp
    split
    · rename_i h
      simp only [Bool.and_eq_true] at h
      obtain ⟨h1, h2, h3⟩ := h
      obtain ⟨P, K, W, p1, p2, p3, p4⟩ := hF p List.mem_cons_self
      rw [Nat.eq_of_beq_eq_true h1, cmS0_ok hB h2 p1] at p4
      have h3 := sxEqv_ok hB h3 p3 (sxNm_ok hB f2)
      rw [sxBn_eq]
      refine cmWp_ok e1 e2 hn f2 f3 f4 hX hr (cmWk_ok hB e1 e2 f3 p2 hn (fun h0 => ?_))
      rw [← f4, hX, ← h3, ← p4, sem6 h0]
      rfl
    · exact cmWp_ok e1 e2 hn f2 f3 f4 hX hr hB
theorem cmWf_ok {q : Nat × sxN × sxN × sxN} {n : Nat} {A : Int} (e1 : sxNR σ q.2.1 A) (e2 : sxNR σ q.2.2.1 (n : Int)) (hn : n ≤ 12) : ∀ {F : sxF} {B : sxB}, (∀ f ∈ F, sxFt T σ f) → sxBR T σ B → sxBR T σ (cmWf q n F B)
  | [], _, _, hB => hB
  | f :: r, B, hF, hB => by
    have hr : ∀ f ∈ r, sxFt T σ f := fun f hf => hF f (List.mem_cons_of_mem _ hf)
    unfold cmWf
    split
    · exact cmWf_ok e1 e2 hn hr hB
    rename_i h
    rw [Bool.and_eq_true] at h
    obtain ⟨X, Y, Z, f1, f2, f3, f4⟩ := hF f List.mem_cons_self
    rw [Nat.eq_of_beq_eq_true h.1] at f4
    have hX := sxEqv_ok hB h.2 f1 (sxNm_ok hB e1)
    split
    · rename_i c hc
      split
      · rename_i h1
        rw [Bool.and_eq_true] at h1
        have h2 := Nat.eq_of_beq_eq_true h1.1
        have h3 := bltOk h1.2
        have hy := sxNm_ok hB f2
        rw [hc] at hy
        have hy := sxN0 hB hy
        rw [sxBn_eq]
        refine cmWf_ok e1 e2 hn hr (cmWk_ok hB e1 e2 f3 (sxNR.c0 hB (Int.ofNat (Nat.log2 c))) hn (fun _ => ?_))
        have e5 : Y = tSh (Nat.log2 c) := by
          rw [hy, tSh_of (by omega), h2]
          rfl
        rw [← f4, hX, e5]
        rfl
      · exact cmWf_ok e1 e2 hn hr hB
    · rw [sxBn_eq]
      exact cmWf_ok e1 e2 hn hr (cmWp_ok e1 e2 hn f2 f3 f4 hX hB.2.2.2.2 hB)
theorem cmW7_ok {q : Nat × sxN × sxN × sxN} {A : Int} (e1 : sxNR σ q.2.1 A) : ∀ {F : sxF} {B : sxB}, (∀ f ∈ F, sxFt T σ f) → sxBR T σ B → sxBR T σ (cmW7 q F B)
  | [], _, _, hB => hB
  | f :: r, B, hF, hB => by
    have hr : ∀ f ∈ r, sxFt T σ f := fun f hf => hF f (List.mem_cons_of_mem _ hf)
    unfold cmW7
    split
    · rename_i h
      simp only [Bool.and_eq_true] at h
      obtain ⟨h1, h2, h3, h4⟩ := h
      obtain ⟨X, K, Z, f1, f2, f3, f4⟩ := hF f List.mem_cons_self
      rw [Nat.eq_of_beq_eq_true h1] at f4
      have hX := sxEqv_ok hB h2 f1 (sxNm_ok hB e1)
      have h3 := sxBtw_ok hB h3 f2
      have h4 := cmIs_ok hB h4 (fun u hu => cmT_ok hB hu e1 f2 h3.1)
      rw [sxBn_eq]
      refine cmW7_ok e1 hr (sxPut_ok hB f1 (sxNR.off f2 1) ?_)
      have w1 : sxSem T 70 X (K + 1) = sxSem T 70 X K := by
        show tWo T X (K + 1).toNat = tWo T X K.toNat
        rw [show (K + 1).toNat = K.toNat + 1 by omega, tWo_s]
        exact if_pos (Or.inl (by rw [hX]; exact h4))
      rw [w1, f4]
      exact f3
    · exact cmW7_ok e1 hr hB
theorem cmW1_ok {q : Nat × sxN × sxN × sxN} (hB : sxBR T σ B) (hq : sxFt T σ q) : sxBR T σ (cmW1 B q) := by
  obtain ⟨A, N, Z, e1, e2, e3, e4⟩ := hq
  unfold cmW1
  split
  · rename_i n hn
    have hN := sxNm_ok hB e2
    rw [hn] at hN
    have hN := sxN0 hB hN
    rw [hN] at e2
    split
    · exact hB
    rename_i h1
    have h1 := Nat.le_of_ble_eq_true h1
    split
    · rename_i h2
      have h2 := cmIs_ok hB h2 (fun u hu => sxFl_ok hB hu hB.2.2.2.2 (sxNm_ok hB e1) (sxNR.c0 hB 0))
      refine sxPut_ok hB e1 e2 ?_
      rw [show sxSem T 69 A (Int.ofNat n) = tWo T A n from rfl, tWo_0 h2]
      exact sxNR.c0 hB 0
    · have hB1 : sxBR T σ (match sxFl B B.2.2.2.2 66 (sxNm B q.2.1) (0, 0) with
          | some v => (match flN B v with | true => sxPut B 70 q.2.1 (0, 0) (0, 1) | false => B)
          | none => B) := by
        split
        · rename_i v hv
          have hv := sxFl_ok hB hv hB.2.2.2.2 (sxNm_ok hB e1) (sxNR.c0 hB 0)
          split
          · rename_i h3
            have h3 := flN_ok hB h3 hv
            refine sxPut_ok hB e1 (sxNR.c0 hB 0) ?_
            have w1 : sxSem T 70 A 0 = 1 := if_neg h3
            rw [w1]
            exact sxNR.c0 hB 1
          · exact hB
        · exact hB
      have hB2 := cmWf_ok e1 e2 h1 hB1.2.2.2.2 hB1
      have hB3 := cmW7_ok e1 hB2.2.2.2.2 hB2
      rw [sxBn_eq, sxBn_eq, sxBn_eq]
      split
      · rename_i h4
        have h4 := cmIs_ok hB3 h4 (fun u hu => sxFl_ok hB3 hu hB3.2.2.2.2 (sxNm_ok hB3 e1) (sxNR.c0 hB3 (Int.ofNat n)))
        refine sxPut_ok hB3 e1 e2 ?_
        rw [show sxSem T 69 A (Int.ofNat n) = sxSem T 70 A (Int.ofNat n) from rfl, h4]
        exact sxNR.c0 hB3 1
      · exact hB3
  · exact hB
theorem cmWL_ok : ∀ {F : sxF} {B : sxB}, (∀ q ∈ F, sxFt T σ q) → sxBR T σ B → sxBR T σ (cmWL F B)
  | [], _, _, hB => hB
  | q :: r, B, hF, hB => by
    have hr : ∀ q ∈ r, sxFt T σ q := fun q hq => hF q (List.mem_cons_of_mem _ hq)
    unfold cmWL
    split
    · rw [sxBn_eq]
      exact cmWL_ok hr (cmW1_ok hB (hF q List.mem_cons_self))
    · exact cmWL_ok hr hB
theorem cmWho_ok (hB : sxBR T σ B) : sxBR T σ (cmWho B) := by
  have h1 := cmWL_ok hB.2.2.2.2 hB
  unfold cmWho
  rw [sxBn_eq]
  exact cmEq_ok _ h1.2.2.2.2 h1
theorem cmS0i_ok : ∀ {F : sxF} {B : sxB}, (∀ q ∈ F, sxFt T σ q) → sxBR T σ B → sxBR T σ (cmS0 F B)
  | [], _, _, hB => hB
  | q :: r, B, hF, hB => by
    have hr : ∀ q ∈ r, sxFt T σ q := fun q hq => hF q (List.mem_cons_of_mem _ hq)
    obtain ⟨A, N, Z, e1, e2, e3, e4⟩ := hF q List.mem_cons_self
    have z0 := sxNR.c0 hB 0
    have n1 := sxNR.c0 hB (-1)
    unfold cmS0
    split
    · rw [sxBn_eq]
      exact cmS0i_ok hr (sxPut_ok hB z0 e2 z0)
    split
    · exact cmS0i_ok hr hB
    split
    · rw [sxBn_eq]
      exact cmS0i_ok hr (sxPut_ok hB z0 z0 z0)
    split
    · rw [sxBn_eq]
      exact cmS0i_ok hr (sxPut_ok hB z0 z0 n1)
    split
    · rw [sxBn_eq]
      exact cmS0i_ok hr (sxPut_ok hB z0 e2 z0)
    split
    · rw [sxBn_eq]
      exact cmS0i_ok hr (sxPut_ok hB z0 z0 n1)
    · exact cmS0i_ok hr hB
theorem sem79 {I : Int} {n : Nat} (hn : n ≤ 12) : sxSem T 79 I (Int.ofNat n) = tWA T n I (2 ^ n) := by
  show tWA T (Nat.min n 12) I (2 ^ Nat.min n 12) = _
  rw [show Nat.min n 12 = n from Nat.min_eq_left hn]
theorem sem86 {W : Int} {n : Nat} (hn : n ≤ 12) : sxSem T 86 W (Int.ofNat n) = tSe T W n := by
  show tSe T W (Nat.min n 12) = _
  rw [show Nat.min n 12 = n from Nat.min_eq_left hn]
theorem cmF79_ok {m : sxN} {n : Nat} {M : Int} (hm : sxNR σ m M) (hn : n ≤ 12) (e : M = tWC T n (2 ^ n)) : ∀ {F : sxF} {B : sxB}, (∀ f ∈ F, sxFt T σ f) → sxBR T σ B → sxBR T σ (cmF79 m n F B)
  | [], _, _, hB => hB
  | f :: r, B, hF, hB => by
    have hr : ∀ f ∈ r, sxFt T σ f := fun f hf => hF f (List.mem_cons_of_mem _ hf)
    unfold cmF79
    split
    · rename_i h
      simp only [Bool.and_eq_true, Bool.or_eq_true] at h
      obtain ⟨h1, h2, h3⟩ := h
      obtain ⟨I, N, Z, f1, f2, f3, f4⟩ := hF f List.mem_cons_self
      have h2 := cmS0_ok hB h2 f2
      rw [h2] at f2
      have hle : tWC T n (2 ^ n) ≤ I ∨ I < 0 := by
        rcases h3 with c | c
        · have h4 := sxLe_ok hB c hm f1
          omega
        · have h4 := sxLe_ok hB c f1 (sxNR.c0 hB (-1))
          omega
      rw [sxBn_eq]
      refine cmF79_ok hm hn e hr (sxPut_ok hB f1 f2 ?_)
      rw [sem79 hn, tWA_no _ hle]
      exact sxNR.c0 hB (-1)
    · exact cmF79_ok hm hn e hr hB
theorem cmFin_ok {FW : sxF} {n : Nat} {q : Nat × sxN × sxN × sxN} (hB : sxBR T σ B) (hn : n ≤ 12) (hW : ∀ f ∈ FW, sxFt T σ f) (hq : sxFt T σ q) (hx : sxNR σ q.2.1 (Int.ofNat (2 ^ n))) : sxBR T σ (cmFin FW n q B) := by
  obtain ⟨A, N, Z, e1, e2, e3, e4⟩ := hq
  rw [sxNR.un e1 hx] at e4
  have g : ∀ {w : Int} {B : sxB}, sxBR T σ B → tSe T w n = Z → sxBR T σ (sxPut B 86 (0, w) (0, Int.ofNat n) q.2.2.2) := by
    intro w B hB h
    refine sxPut_ok hB (sxNR.c0 hB w) (sxNR.c0 hB (Int.ofNat n)) ?_
    rw [sem86 hn, h]
    exact e3
  unfold cmFin
  split
  · rename_i h1
    rw [Nat.eq_of_beq_eq_true h1] at e4
    split
    · exact hB
    rename_i h2
    have h2 := cmS0_ok hB h2 e2
    rw [h2] at e4
    have e5 : tWC T n (2 ^ n) = Z := e4
    have hB1 := cmF79_ok e3 hn e5.symm hW hB
    rw [sxBn_eq]
    split
    · exact g hB1 (tSe_2.trans e5)
    · exact hB1
  split
  · exact hB
  split
  · rename_i h1
    rw [Nat.eq_of_beq_eq_true h1] at e4
    exact g hB (tSe_0.trans e4)
  split
  · rename_i h1
    rw [Nat.eq_of_beq_eq_true h1] at e4
    exact g hB (tSe_1.trans e4)
  split
  · rename_i h1
    rw [Nat.eq_of_beq_eq_true h1] at e4
    exact g hB (tSe_3.trans e4)
  · exact hB
theorem cmI79_ok {a m : sxN} {n : Nat} {A M : Int} (ha : sxNR σ a A) (hm : sxNR σ m M) (hn : n ≤ 12) (h0 : 0 ≤ A) (h1 : tWo T A n = 1) (h2 : M = tWC T n A.toNat) : ∀ {F : sxF} {B : sxB}, (∀ f ∈ F, sxFt T σ f) → sxBR T σ B → sxBR T σ (cmI79 a m n F B)
  | [], _, _, hB => hB
  | f :: r, B, hF, hB => by
    have hr : ∀ f ∈ r, sxFt T σ f := fun f hf => hF f (List.mem_cons_of_mem _ hf)
    unfold cmI79
    split
    · rename_i h
      simp only [Bool.and_eq_true] at h
      obtain ⟨c1, c2, c3, c4⟩ := h
      obtain ⟨I, N, Z, f1, f2, f3, f4⟩ := hF f List.mem_cons_self
      have c2 := cmS0_ok hB c2 f2
      rw [c2] at f2
      have c3 := sxEqv_ok hB c3 f1 (sxNm_ok hB hm)
      have c4 := sxLe_ok hB c4 ha (sxNR.c0 hB (Int.ofNat (2 ^ n)))
      simp only [Int.ofNat_eq_natCast] at c4
      have eA : ((A.toNat : Nat) : Int) = A := by omega
      have h3 := tWA_of (T := T) (n := n) (s := A.toNat) (i := I) (by rw [eA]; exact h1) (by rw [c3, h2]) (2 ^ n - (A.toNat + 1))
      rw [show A.toNat + 1 + (2 ^ n - (A.toNat + 1)) = 2 ^ n by omega, eA] at h3
      rw [sxBn_eq]
      refine cmI79_ok ha hm hn h0 h1 h2 hr (sxPut_ok hB f1 f2 ?_)
      rw [sem79 hn, h3]
      exact ha
    · exact cmI79_ok ha hm hn h0 h1 h2 hr hB
theorem cmPcv_ok {x p : sxN} {X : Int} (hB : sxBR T σ B) (h : cmPcv B x = some p) (hx : sxNR σ x X) (h0 : 0 ≤ X) (h1 : X ≤ 4095) : sxNR σ p (tPc X : Int) := by
  obtain ⟨g1, g2, -⟩ := tPc_of (T := T) h0 h1
  unfold cmPcv at h
  split at h
  · rename_i c hc
    cases h
    have h2 := sxCst_ok hB hc (sxNm_ok hB hx) (sxNR.c0 hB 0)
    rw [g1] at h2
    rw [h2]
    exact sxNR.c0 hB c
  split at h
  · rename_i z hz
    cases h
    have hz := sxFl_ok hB hz hB.2.2.2.2 (sxNm_ok hB hx) (sxNR.c0 hB 0)
    rw [g1] at hz
    exact hz
  · have h := sxFl_ok hB h hB.2.2.2.2 (sxNm_ok hB hx) (sxNR.c0 hB 0)
    rw [g2] at h
    exact h
theorem cm74_ok {FW : sxF} {n : Nat} {q : Nat × sxN × sxN × sxN} {A : Int} (hB : sxBR T σ B) (hn : n ≤ 12) (hW : ∀ f ∈ FW, sxFt T σ f) (h74 : q.1 = 74) (hq : sxFt T σ q) (hx : sxNR σ q.2.1 A) (h0 : 0 ≤ A) : sxBR T σ (cm74 FW n q B) := by
  obtain ⟨A', N, Z, e1, e2, e3, e4⟩ := hq
  rw [sxNR.un e1 hx, h74] at e4
  unfold cm74
  split
  · exact hB
  rename_i h1
  have h1 := cmS0_ok hB h1 e2
  rw [h1] at e2 e4
  have e5 : tWC T n A.toNat = Z := e4
  have eA : ((A.toNat : Nat) : Int) = A := by omega
  have step : sxSem T 74 (A + 1) (Int.ofNat n) = if tWo T A n = 1 then Z + 1 else Z := by
    show tWC T n (A + 1).toNat = _
    rw [show (A + 1).toNat = A.toNat + 1 by omega, tWC_s, eA, e5]
  have hw : ∀ {c : Int}, cmIs B (sxFl B B.2.2.2.2 69 (sxNm B q.2.1) (0, Int.ofNat n)) c = true → tWo T A n = c := fun h => cmIs_ok hB h (fun u hu => sxFl_ok hB hu hB.2.2.2.2 (sxNm_ok hB hx) (sxNR.c0 hB (Int.ofNat n)))
  split
  · rename_i h2
    have h2 := hw h2
    rw [sxBn_eq]
    refine cmI79_ok hx e3 hn h0 h2 e5.symm hW (sxPut_ok hB (sxNR.off hx 1) e2 ?_)
    rw [step, if_pos h2]
    exact sxNR.off e3 1
  split
  · rename_i h2
    rw [Bool.or_eq_true] at h2
    have h3 : ¬ tWo T A n = 1 := by
      rcases h2 with c | c
      · rw [hw c]
        decide
      · have h4 : tCM T A 12 = 0 := cmIs_ok hB c (fun u hu => sxFl_ok hB hu hB.2.2.2.2 (sxNm_ok hB hx) (sxNR.c0 hB 0))
        rw [tWo_0 h4]
        decide
    refine sxPut_ok hB (sxNR.off hx 1) e2 ?_
    rw [step, if_neg h3]
    exact e3
  · exact hB
theorem cmBe_ok {o : Nat} {q : Nat × sxN × sxN × sxN} {u w : Option sxN} {A M U W : Int} (hB : sxBR T σ B) (hx : sxNR σ q.2.1 A) (hm : sxNR σ q.2.2.2 M) (hu : ∀ p, u = some p → sxNR σ p U) (hw : ∀ p, w = some p → sxNR σ p W) (h1 : U < W → sxSem T o (A + 1) 0 = A) (h2 : W ≤ U → sxSem T o (A + 1) 0 = M) : sxBR T σ (cmBe o q u w B) := by
  cases u with
  | none => exact hB
  | some p =>
    cases w with
    | none => exact hB
    | some p2 =>
      have hu := hu p rfl
      have hw := hw p2 rfl
      unfold cmBe
      dsimp only
      split
      · rename_i h
        have h := sxLe_ok hB h hu hw
        refine sxPut_ok hB (sxNR.off hx 1) (sxNR.c0 hB 0) ?_
        rw [h1 (by omega)]
        exact hx
      split
      · rename_i h
        have h := sxLe_ok hB h hw hu
        refine sxPut_ok hB (sxNR.off hx 1) (sxNR.c0 hB 0) ?_
        rw [h2 (by omega)]
        exact hm
      · exact hB
theorem cm7x_ok {o : Nat} {q : Nat × sxN × sxN × sxN} {z n : Bool} {A M : Int} (hB : sxBR T σ B) (ho : o = 71 ∨ o = 72 ∨ o = 73) (hx : sxNR σ q.2.1 A) (hm : sxNR σ q.2.2.2 M) (h0 : 0 ≤ A) (h4 : A ≤ 4095) (e : ∀ c, sxSem T o A c = M) (hz : z = true → tCM T A 12 = 0) (hn : n = true → ¬ tCM T A 12 = 0) : sxBR T σ (cm7x o q z n B) := by
  have eA : ((A.toNat : Nat) : Int) = A := by omega
  have et : (A + 1).toNat = A.toNat + 1 := by omega
  have a1 := sxNR.off hx 1
  have z0 := sxNR.c0 hB 0
  rcases ho with rfl | rfl | rfl
  · have e5 : tFC T A.toNat = M := e 0
    have step : sxSem T 71 (A + 1) 0 = if tCM T A 12 = 0 then M else M + 1 := by
      show tFC T (A + 1).toNat = _
      rw [et, tFC_s, eA, e5]
    show sxBR T σ (match (generalizing := false) n with
      | true => sxPut B 71 (q.2.1.1, q.2.1.2 + 1) (0, 0) (q.2.2.2.1, q.2.2.2.2 + 1)
      | false => match (generalizing := false) z with
        | true => sxPut B 71 (q.2.1.1, q.2.1.2 + 1) (0, 0) q.2.2.2
        | false => B)
    cases n with
    | true =>
      refine sxPut_ok hB a1 z0 ?_
      rw [step, if_neg (hn rfl)]
      exact sxNR.off hm 1
    | false =>
      cases z with
      | true =>
        refine sxPut_ok hB a1 z0 ?_
        rw [step, if_pos (hz rfl)]
        exact hm
      | false => exact hB
  · have e5 : tGR T A.toNat = M := e 0
    have step : sxSem T 72 (A + 1) 0 = if tCM T A 12 = 0 then M else if M = -1 ∨ tPc M < tPc A then A else M := by
      show tGR T (A + 1).toNat = _
      rw [et, tGR_s, eA, e5]
    show sxBR T σ (match (generalizing := false) n with
      | false => (match (generalizing := false) z with | true => sxPut B 72 (q.2.1.1, q.2.1.2 + 1) (0, 0) q.2.2.2 | false => B)
      | true => match sxSame (sxNm B q.2.2.2) (0, -1) with
        | true => sxPut B 72 (q.2.1.1, q.2.1.2 + 1) (0, 0) q.2.1
        | false => match sxBtw B q.2.2.2 0 4095 with
          | false => B
          | true => cmBe 72 q (cmPcv B q.2.2.2) (cmPcv B q.2.1) B)
    cases n with
    | false =>
      cases z with
      | true =>
        refine sxPut_ok hB a1 z0 ?_
        rw [step, if_pos (hz rfl)]
        exact hm
      | false => exact hB
    | true =>
      have hn := hn rfl
      dsimp only
      split
      · rename_i h
        have h := cmS0_ok hB h hm
        refine sxPut_ok hB a1 z0 ?_
        rw [step, if_neg hn, if_pos (Or.inl h)]
        exact hx
      split
      · exact hB
      · rename_i h
        have h := sxBtw_ok hB h hm
        refine cmBe_ok (U := (tPc M : Int)) (W := (tPc A : Int)) hB hx hm (fun p hp => cmPcv_ok hB hp hm h.1 h.2) (fun p hp => cmPcv_ok hB hp hx h0 h4) (fun hlt => ?_) (fun hle => ?_)
        · rw [step, if_neg hn, if_pos (Or.inr (by omega))]
        · rw [step, if_neg hn, if_neg (fun c => by rcases c with c | c <;> omega)]
  · have e5 : tCR T A.toNat = M := e 0
    have step : sxSem T 73 (A + 1) 0 = if tCM T A 12 = 0 then (if M = -1 ∨ tPc A < tPc M then A else M) else M := by
      show tCR T (A + 1).toNat = _
      rw [et, tCR_s, eA, e5]
    show sxBR T σ (match (generalizing := false) z with
      | false => (match (generalizing := false) n with | true => sxPut B 73 (q.2.1.1, q.2.1.2 + 1) (0, 0) q.2.2.2 | false => B)
      | true => match sxSame (sxNm B q.2.2.2) (0, -1) with
        | true => sxPut B 73 (q.2.1.1, q.2.1.2 + 1) (0, 0) q.2.1
        | false => match sxBtw B q.2.2.2 0 4095 with
          | false => B
          | true => cmBe 73 q (cmPcv B q.2.1) (cmPcv B q.2.2.2) B)
    cases z with
    | false =>
      cases n with
      | true =>
        refine sxPut_ok hB a1 z0 ?_
        rw [step, if_neg (hn rfl)]
        exact hm
      | false => exact hB
    | true =>
      have hz := hz rfl
      dsimp only
      split
      · rename_i h
        have h := cmS0_ok hB h hm
        refine sxPut_ok hB a1 z0 ?_
        rw [step, if_pos hz, if_pos (Or.inl h)]
        exact hx
      split
      · exact hB
      · rename_i h
        have h := sxBtw_ok hB h hm
        refine cmBe_ok (U := (tPc A : Int)) (W := (tPc M : Int)) hB hx hm (fun p hp => cmPcv_ok hB hp hx h0 h4) (fun p hp => cmPcv_ok hB hp hm h.1 h.2) (fun hlt => ?_) (fun hle => ?_)
        · rw [step, if_pos hz, if_pos (Or.inr (by omega))]
        · rw [step, if_pos hz, if_neg (fun c => by rcases c with c | c <;> omega)]
theorem cmM1_ok {FW : sxF} {n : Nat} {q : Nat × sxN × sxN × sxN} (hB : sxBR T σ B) (hn : n ≤ 12) (hW : ∀ f ∈ FW, sxFt T σ f) (hq : sxFt T σ q) (ho : q.1 = 71 ∨ q.1 = 72 ∨ q.1 = 73 ∨ q.1 = 74) : sxBR T σ (cmM1 FW n q B) := by
  have hq0 := hq
  obtain ⟨A, N, Z, e1, e2, e3, e4⟩ := hq
  unfold cmM1
  split
  · rename_i h
    rw [cmS0_ok hB h e1] at e1
    exact cmFin_ok hB hn hW hq0 e1
  split
  · exact hB
  rename_i h1
  have h1 := sxBtw_ok hB h1 e1
  split
  · rename_i h2
    exact cm74_ok hB hn hW (Nat.eq_of_beq_eq_true h2) hq0 e1 h1.1
  rename_i h2
  have h2 := Nat.ne_of_beq_eq_false h2
  split
  · exact hB
  rename_i v hv
  have hv := sxFl_ok hB hv hB.2.2.2.2 (sxNm_ok hB e1) (sxNR.c0 hB 0)
  have ho : q.1 = 71 ∨ q.1 = 72 ∨ q.1 = 73 := by omega
  refine cm7x_ok hB ho e1 e3 h1.1 h1.2 (fun c => ?_) (fun h => cmS0_ok hB h hv) (fun h => flN_ok hB h hv)
  rw [← e4]
  rcases ho with o | o | o
  · rw [o, show sxSem T 71 A c = tFC T A.toNat from rfl, show sxSem T 71 A N = tFC T A.toNat from rfl]
  · rw [o, show sxSem T 72 A c = tGR T A.toNat from rfl, show sxSem T 72 A N = tGR T A.toNat from rfl]
  · rw [o, show sxSem T 73 A c = tCR T A.toNat from rfl, show sxSem T 73 A N = tCR T A.toNat from rfl]
theorem cmML_ok {FW : sxF} {n : Nat} (hn : n ≤ 12) (hW : ∀ f ∈ FW, sxFt T σ f) : ∀ {F : sxF} {B : sxB}, (∀ q ∈ F, sxFt T σ q) → sxBR T σ B → sxBR T σ (cmML FW n F B)
  | [], _, _, hB => hB
  | q :: r, B, hF, hB => by
    have hr : ∀ q ∈ r, sxFt T σ q := fun q hq => hF q (List.mem_cons_of_mem _ hq)
    unfold cmML
    split
    · rename_i h
      simp only [Bool.or_eq_true] at h
      rw [sxBn_eq]
      refine cmML_ok hn hW hr (cmM1_ok hB hn hW (hF q List.mem_cons_self) ?_)
      rcases h with h | h | h | h
      · exact Or.inl (Nat.eq_of_beq_eq_true h)
      · exact Or.inr (Or.inl (Nat.eq_of_beq_eq_true h))
      · exact Or.inr (Or.inr (Or.inl (Nat.eq_of_beq_eq_true h)))
      · exact Or.inr (Or.inr (Or.inr (Nat.eq_of_beq_eq_true h)))
    · exact cmML_ok hn hW hr hB
theorem cmSum_ok (hB : sxBR T σ B) : sxBR T σ (cmSum B) := by
  have h1 := cmS0i_ok hB.2.2.2.2 hB
  unfold cmSum
  rw [sxBn_eq, sxBn_eq]
  have h2 : sxBR T σ (match cmNn (cmS0 B.2.2.2.2 B) (cmS0 B.2.2.2.2 B).2.2.2.2 with
    | some n => (match Nat.ble n 12 with | true => cmML (cmS0 B.2.2.2.2 B).2.2.2.2 n (cmS0 B.2.2.2.2 B).2.2.2.2 (cmS0 B.2.2.2.2 B) | false => cmS0 B.2.2.2.2 B)
    | none => cmS0 B.2.2.2.2 B) := by
    split
    · split
      · rename_i hn
        exact cmML_ok (Nat.le_of_ble_eq_true hn) h1.2.2.2.2 h1.2.2.2.2 h1
      · exact h1
    · exact h1
  exact cmEq_ok _ h2.2.2.2.2 h2
theorem gHkR {B' : sxB} {O' : sxO} {G' : sxG} (hl : H.length = 579) (hB : sxBR T σ B) (hO : sxOR (sxVw (ghL T V) scr 579 H) σ O) (hG : sxGR (sxVw (ghL T V) scr 579 H) σ G) (h : sxHk 579 j B O G = some (B', O', G')) : ∃ σ', sxUp σ σ' ∧ sxBR T σ' B' ∧ sxOR (sxVw (ghL T V) scr 579 H) σ' O' ∧ sxGR (sxVw (ghL T V) scr 579 H) σ' G' := by
  unfold sxHk at h
  split at h
  · obtain ⟨k1, k2, k3⟩ := gHk hB hO hG h
    exact ⟨σ, sxUp.rf, k1, k2, k3⟩
  unfold rwHk at h
  split at h
  · split at h
    · rename_i B1 hB1
      cases h
      obtain ⟨σ1, u1, g1⟩ := rwInd_ok hB hO hB1
      exact ⟨σ1, u1, g1, hO.up u1, hG.up u1⟩
    · split at h
      · rename_i B1 hB1
        cases h
        obtain ⟨σ1, u1, g1⟩ := rwInd_ok hB hO hB1
        exact ⟨σ1, u1, g1, hO.up u1, hG.up u1⟩
      · cases h
  · split at h
    · split at h
      · rename_i O1 hO1
        cases h
        exact ⟨σ, sxUp.rf, hB, rwCopy_ok hB hO hO1, hG⟩
      · cases h
    · split at h
      · cases h
        refine ⟨σ, sxUp.rf, ?_, hO, hG⟩
        rw [sxBn_eq]
        exact rwRdO_ok hO hO (cmRdO_ok hl hO hO hB)
      · split at h
        · cases h
          refine ⟨σ, sxUp.rf, ?_, hO, hG⟩
          rw [sxBn_eq]
          exact rwAr_ok (Or.inr rfl) (rwAr_ok (Or.inl rfl) hB hO) hO
        · split at h
          · cases h
            exact ⟨σ, sxUp.rf, ocStep_ok hB, hO, hG⟩
          · split at h
            · cases h
              exact ⟨σ, sxUp.rf, hB, ocIs_ok hB hO, hG⟩
            · split at h
              · cases h
                exact ⟨σ, sxUp.rf, lfInL_ok hB.2.2.2.2 hB, hO, hG⟩
              · split at h
                · cases h
                  exact ⟨σ, sxUp.rf, ppDL_ok hB.2.2.2.2 hB, hO, hG⟩
                · split at h
                  · cases h
                    exact ⟨σ, sxUp.rf, flAll_ok hB, hO, hG⟩
                  · split at h
                    · cases h
                      exact ⟨σ, sxUp.rf, cmCom_ok hB, hO, hG⟩
                    · split at h
                      · cases h
                        exact ⟨σ, sxUp.rf, cmOrL_ok hB.2.2.2.2 hB, hO, hG⟩
                      · split at h
                        · cases h
                          exact ⟨σ, sxUp.rf, hB, cmNmO_ok hB hO, hG⟩
                        · split at h
                          · cases h
                            exact ⟨σ, sxUp.rf, cmWho_ok hB, hO, hG⟩
                          · split at h
                            · cases h
                              refine ⟨σ, sxUp.rf, ?_, hO, hG⟩
                              rw [sxBn_eq]
                              exact cmSum_ok (cmOrL_ok hB.2.2.2.2 hB)
                            · cases h
                              exact ⟨σ, sxUp.rf, rwBt_ok hB, hO, hG⟩
/-- the ghost keeps to its rules -/
theorem ghGd : sxGd sxKw (ghL T V) := by
  refine ⟨fun σ B O scr H i t vs x X a w hB hO hl hi hx h0 hX ha => ⟨fun g hg => ?_, ?_, fun s hs => ?_⟩, fun _ _ _ _ _ _ _ _ _ _ hB hO hG hl h => gHkR hl hB hO hG h⟩
  · have hl : H.length = 579 := hl
    by_cases e : g = 1001
    · subst e
      show cmB T (H.set i (t, vs.set X.toNat w)) = cmB T H
      rw [cmB_no (by rw [List.length_set, hl]), cmB_no hl]
    · have hg : ¬ g ∈ sxKill B O i x := fun h => e (hg h)
      have hg2 : ∀ h : g ∈ sxKill0 B O i x ++ rwKill B O i x, False := fun h => hg (List.mem_append_left _ h)
      exact gSame1 hl h0 hi (ghKill hB hO hx h0 fun h => hg2 (List.mem_append_left _ h)) (fun r hr => rwKill_ok (rwGet_mem hr).1 hB hO hx (by rw [(rwGet_mem hr).2]; exact fun h => hg2 (List.mem_append_right _ h))) (fun e => rwAk_ok (Or.inl ⟨rfl, e⟩) hB hx (fun h => hg2 (List.mem_append_right _ h))) (fun e => rwAk_ok (Or.inr ⟨rfl, e⟩) hB hx (fun h => hg2 (List.mem_append_right _ h))) (ocKill_ok hB hx (fun h => hg2 (List.mem_append_right _ h)))
  · exact gApp (cmNew_ok hB hO hl hi hx h0 hX ha) (gApp (gRule hB hO hi hx h0 hX ha) (gRuleR hB hO hi hx h0 hX ha))
  · refine cmSame hi hl (fun e => hs (List.mem_append_right _ ?_))
    rw [e]
    exact List.mem_singleton.mpr rfl
end GHRULE
