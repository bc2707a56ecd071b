/-! SX: a method's job well done is its contract -/
noncomputable section SXMET
variable {T : Nat} {X : sxCx} {K : sxKx} {gh : sxGh} {scr : Option (List Int32)} {v0 : Nat → Nat → Option Value} {d0 : Nat} {Z : mjO → Prop} {τ τ0 σ σ' : List Int} {F : List sxFm} {cF : List cFr} {k pc d C S C0 S0 n : Nat} {ls : sxL} {st : List sxV} {B B' : sxB} {O O' : sxO} {G G' : sxG} {cl : mjL} {cs : List Value} {H H' : mjH} {L : List sxE1} {J : sxJb} {s : sxS}
theorem sxStp_ok (hGd : sxGd X.1 gh) (hK : X.1.2.1 < mjScr) (hd0 : X.2.2.1 ≤ d0) (h : sxStp X s = some L) (hR : sxRel X gh scr v0 d0 σ s cF d cl cs H C S) : ∃ e ∈ L, sxGd1 X gh scr v0 d0 Z σ (mjRn Z scr cF d s.2.1 s.2.2.1 cl cs H C S) e := by
  obtain ⟨F, k, pc, ls, st, B, O, G, C0, S0⟩ := s
  obtain ⟨⟨hF, hdd⟩, hl, hs, hH, hC, hS⟩ := hR
  unfold sxStp at h
  dsimp only at h
  rw [bFc_eq, bFc_eq] at h
  split at h
  · rename_i g hg
    unfold sxStepAt at hg
    split at hg
    · rename_i x hx
      exact sxStepI_ok hx hg h hGd hK hd0 hF hdd hl hs hH hC hS
    · cases hg
  · cases h
theorem sxStpL_mem : ∀ {l : List sxS} {L : List sxE1}, sxStpL X l = some L → ∀ s ∈ l, ∃ L1, sxStp X s = some L1 ∧ ∀ e ∈ L1, e ∈ L
  | [], _, _, s, hs => by cases hs
  | a :: r, L, h, s, hs => by
    rw [sxStpL_c] at h
    split at h
    · cases h
    · rename_i L1 hL1
      split at h
      · cases h
      · rename_i L2 hL2
        cases h
        rcases List.mem_cons.mp hs with rfl | hs
        · exact ⟨L1, hL1, fun e he => List.mem_append_left _ he⟩
        · obtain ⟨L3, h1, h2⟩ := sxStpL_mem hL2 s hs
          exact ⟨L3, h1, fun e he => List.mem_append_right _ (h2 e he)⟩
theorem sxSpW_ok {j : Nat} {l : List sxS} (h : sxSpW s j = some l) (hR : sxRel X gh scr v0 d0 σ s cF d cl cs H C S) : ∃ s' ∈ l, sxRel X gh scr v0 d0 σ s' cF d cl cs H C S ∧ s'.2.1 = s.2.1 ∧ s'.2.2.1 = s.2.2.1 := by
  obtain ⟨F, k, pc, ls, st, B, O, G, C0, S0⟩ := s
  obtain ⟨⟨hF, hdd⟩, hl, hs, hH, hC, hS⟩ := hR
  dsimp only at hF hdd hl hs hH hC hS
  unfold sxSpW at h
  dsimp only at h
  split at h
  · rename_i a ha
    split at h
    · rename_i w hw
      cases h
      obtain ⟨z, v, z1, z2, z3, z4⟩ := hH.2.2.1 _ (sxOl_mem ha)
      obtain ⟨x, rfl, hx⟩ := z4
      have hw := sxG1_ok hH.1 hw hx
      have hj : sxNR σ (0, Int.ofNat j) (Int.ofNat j) := sxNR.c0 hH.1 _
      have fin : ∀ B2 : sxB, B2 ∈ sxLtC B w (0, Int.ofNat j) ++ (sxEqC B w (0, Int.ofNat j) ++ sxLtC B (0, Int.ofNat j) w) → sxBR (gT gh) σ B2 → ∃ s' ∈ (sxLtC B w (0, Int.ofNat j) ++ (sxEqC B w (0, Int.ofNat j) ++ sxLtC B (0, Int.ofNat j) w)).map (fun B2 => ((F, k, pc, ls, st, B2, O, G, C0, S0) : sxS)), sxRel X gh scr v0 d0 σ s' cF d cl cs H C S ∧ s'.2.1 = k ∧ s'.2.2.1 = pc := fun B2 hm hB2 =>
        ⟨_, List.mem_map.mpr ⟨B2, hm, rfl⟩, ⟨⟨hF, hdd⟩, hl, hs, hH.to sxUp.rf hB2, hC, hS⟩, rfl, rfl⟩
      rcases Int.lt_trichotomy (sxSem (gT gh) 50 x.toInt 0) (Int.ofNat j) with hc | hc | hc
      · obtain ⟨B2, m1, m2⟩ := sxLtC_ok hH.1 hw hj hc
        exact fin B2 (List.mem_append_left _ m1) m2
      · obtain ⟨B2, m1, m2⟩ := sxEqC_ok hH.1 hw hj hc
        exact fin B2 (List.mem_append_right _ (List.mem_append_left _ m1)) m2
      · obtain ⟨B2, m1, m2⟩ := sxLtC_ok hH.1 hj hw hc
        exact fin B2 (List.mem_append_right _ (List.mem_append_right _ m1)) m2
    · cases h
  · cases h
theorem sxSpJ_ok {j : Nat} {l : List sxS} (h : sxSpJ s j = some l) (hR : sxRel X gh scr v0 d0 σ s cF d cl cs H C S) : ∃ s' ∈ l, sxRel X gh scr v0 d0 σ s' cF d cl cs H C S ∧ s'.2.1 = s.2.1 ∧ s'.2.2.1 = s.2.2.1 := by
  obtain ⟨F, k, pc, ls, st, B, O, G, C0, S0⟩ := s
  obtain ⟨⟨hF, hdd⟩, hl, hs, hH, hC, hS⟩ := hR
  dsimp only at hF hdd hl hs hH hC hS
  unfold sxSpJ at h
  dsimp only at h
  split at h
  · rename_i kd n hn
    split at h
    · rename_i q hq
      cases h
      obtain ⟨v, g3, g4⟩ := sxLR_get hl hn
      have hz : ∃ z : Int, sxNR σ n z := by
        cases kd
        · obtain ⟨w, -, hw⟩ := g4; exact ⟨_, hw⟩
        · obtain ⟨w, -, hw⟩ := g4; exact ⟨_, hw⟩
      obtain ⟨z, hz⟩ := hz
      have hr := sxRg_ok hH.1 hq hz
      obtain ⟨B2, m1, m2⟩ := sxEqC_ok (y := (0, q.1 + Int.ofNat (z - q.1).toNat)) (Y := q.1 + Int.ofNat (z - q.1).toNat) hH.1 hz ⟨0, hH.1.1.2, by simp⟩ (by simp only [Int.ofNat_eq_natCast]; omega)
      exact ⟨_, List.mem_flatMap.mpr ⟨(z - q.1).toNat, List.mem_range.mpr (by omega), List.mem_map.mpr ⟨B2, m1, rfl⟩⟩, ⟨⟨hF, hdd⟩, hl, hs, hH.to sxUp.rf m2, hC, hS⟩, rfl, rfl⟩
    · cases h
  · cases h
theorem sxSpWk_ok {j : Nat} {l : List sxS} (h : sxSpWk s j = some l) (hR : sxRel X gh scr v0 d0 σ s cF d cl cs H C S) : ∃ s' ∈ l, sxRel X gh scr v0 d0 σ s' cF d cl cs H C S ∧ s'.2.1 = s.2.1 ∧ s'.2.2.1 = s.2.2.1 := by
  obtain ⟨F, k, pc, ls, st, B, O, G, C0, S0⟩ := s
  obtain ⟨⟨hF, hdd⟩, hl, hs, hH, hC, hS⟩ := hR
  dsimp only at hF hdd hl hs hH hC hS
  unfold sxSpWk at h
  dsimp only at h
  split at h
  · rename_i kd n hn
    split at h
    · rename_i w hw
      cases h
      obtain ⟨v, g3, g4⟩ := sxLR_get hl hn
      have hz : ∃ z : Int, sxNR σ n z := by
        cases kd
        · obtain ⟨w, -, hw⟩ := g4; exact ⟨_, hw⟩
        · obtain ⟨w, -, hw⟩ := g4; exact ⟨_, hw⟩
      obtain ⟨z, hz⟩ := hz
      have hw := sxG1_ok hH.1 hw (sxNR.c0 hH.1 0)
      have fin : ∀ B2 : sxB, B2 ∈ sxLtC B n w ++ (sxEqC B n w ++ sxLtC B w n) → sxBR (gT gh) σ B2 → ∃ s' ∈ (sxLtC B n w ++ (sxEqC B n w ++ sxLtC B w n)).map (fun B2 => ((F, k, pc, ls, st, B2, O, G, C0, S0) : sxS)), sxRel X gh scr v0 d0 σ s' cF d cl cs H C S ∧ s'.2.1 = k ∧ s'.2.2.1 = pc := fun B2 hm hB2 =>
        ⟨_, List.mem_map.mpr ⟨B2, hm, rfl⟩, ⟨⟨hF, hdd⟩, hl, hs, hH.to sxUp.rf hB2, hC, hS⟩, rfl, rfl⟩
      rcases Int.lt_trichotomy z (sxSem (gT gh) 62 0 0) with hc | hc | hc
      · obtain ⟨B2, m1, m2⟩ := sxLtC_ok hH.1 hz hw hc
        exact fin B2 (List.mem_append_left _ m1) m2
      · obtain ⟨B2, m1, m2⟩ := sxEqC_ok hH.1 hz hw hc
        exact fin B2 (List.mem_append_right _ (List.mem_append_left _ m1)) m2
      · obtain ⟨B2, m1, m2⟩ := sxLtC_ok hH.1 hw hz hc
        exact fin B2 (List.mem_append_right _ (List.mem_append_right _ m1)) m2
    · cases h
  · cases h
theorem sxSp3_ok {B : sxB} {n : sxN} {m z : Int} (hB : sxBR (gT gh) σ B) (hz : sxNR σ n z) : ∃ B2 ∈ sxSp3 B n m, sxBR (gT gh) σ B2 := by
  unfold sxSp3
  rcases Int.lt_or_le z 0 with hc | hc
  · obtain ⟨B2, m1, m2⟩ := sxLtC_ok hB hz (sxNR.c0 hB 0) hc
    exact ⟨B2, List.mem_append_left _ m1, m2⟩
  · obtain ⟨B1, m1, m2⟩ := sxLeC_ok hB (sxNR.c0 hB 0) hz hc
    rcases Int.lt_or_le z m with hd | hd
    · obtain ⟨B2, k1, k2⟩ := sxLtC_ok m2 hz (sxNR.c0 m2 m) hd
      exact ⟨B2, List.mem_append_right _ (List.mem_flatMap.mpr ⟨B1, m1, List.mem_append_left _ k1⟩), k2⟩
    · obtain ⟨B2, k1, k2⟩ := sxLeC_ok m2 (sxNR.c0 m2 m) hz hd
      exact ⟨B2, List.mem_append_right _ (List.mem_flatMap.mpr ⟨B1, m1, List.mem_append_right _ k1⟩), k2⟩
theorem sxSpNr_ok {j : Nat} {l : List sxS} (h : sxSpNr s j = some l) (hR : sxRel X gh scr v0 d0 σ s cF d cl cs H C S) : ∃ s' ∈ l, sxRel X gh scr v0 d0 σ s' cF d cl cs H C S ∧ s'.2.1 = s.2.1 ∧ s'.2.2.1 = s.2.2.1 := by
  obtain ⟨F, k, pc, ls, st, B, O, G, C0, S0⟩ := s
  obtain ⟨⟨hF, hdd⟩, hl, hs, hH, hC, hS⟩ := hR
  dsimp only at hF hdd hl hs hH hC hS
  unfold sxSpNr at h
  dsimp only at h
  split at h
  · rename_i kd n hn
    cases h
    obtain ⟨v, g3, g4⟩ := sxLR_get hl hn
    have hz : ∃ z : Int, sxNR σ n z := by
      cases kd
      · obtain ⟨w, -, hw⟩ := g4; exact ⟨_, hw⟩
      · obtain ⟨w, -, hw⟩ := g4; exact ⟨_, hw⟩
    obtain ⟨z, hz⟩ := hz
    obtain ⟨B2, m1, m2⟩ := sxSp3_ok (m := Int.ofNat (j / 100)) hH.1 hz
    exact ⟨_, List.mem_map.mpr ⟨B2, m1, rfl⟩, ⟨⟨hF, hdd⟩, hl, hs, hH.to sxUp.rf m2, hC, hS⟩, rfl, rfl⟩
  · cases h
theorem sxSpB_ok {j : Nat} {l : List sxS} (h : sxSpB s j = some l) (hR : sxRel X gh scr v0 d0 σ s cF d cl cs H C S) : ∃ s' ∈ l, sxRel X gh scr v0 d0 σ s' cF d cl cs H C S ∧ s'.2.1 = s.2.1 ∧ s'.2.2.1 = s.2.2.1 := by
  obtain ⟨F, k, pc, ls, st, B, O, G, C0, S0⟩ := s
  obtain ⟨⟨hF, hdd⟩, hl, hs, hH, hC, hS⟩ := hR
  dsimp only at hF hdd hl hs hH hC hS
  unfold sxSpB at h
  dsimp only at h
  split at h
  · rename_i kd n hn
    split at h
    · split at h
      · rename_i z0 hz0
        cases h
        obtain ⟨v, g3, g4⟩ := sxLR_get hl hn
        have hz : ∃ z : Int, sxNR σ n z := by
          cases kd
          · obtain ⟨w, -, hw⟩ := g4; exact ⟨_, hw⟩
          · obtain ⟨w, -, hw⟩ := g4; exact ⟨_, hw⟩
        obtain ⟨z, hz⟩ := hz
        have hz0 := sxG1_ok hH.1 hz0 (sxNR.c0 hH.1 0)
        exact ⟨_, List.mem_cons_self, ⟨⟨hF, hdd⟩, hl, hs, hH.to sxUp.rf (sxPut_ok hH.1 hz (sxNR.c0 hH.1 0) hz0), hC, hS⟩, rfl, rfl⟩
      · cases h
    split at h
    · rename_i hop
      cases h
      obtain ⟨v, g3, g4⟩ := sxLR_get hl hn
      have hz : ∃ z : Int, sxNR σ n z := by
        cases kd
        · obtain ⟨w, -, hw⟩ := g4; exact ⟨_, hw⟩
        · obtain ⟨w, -, hw⟩ := g4; exact ⟨_, hw⟩
      obtain ⟨z, hz⟩ := hz
      have key : sxSem (gT gh) (j / 100) z 0 = 0 := by
        rw [Bool.or_eq_true, Bool.or_eq_true] at hop
        rcases hop with e | e | e
        · rw [Nat.eq_of_beq_eq_true e]; rfl
        · rw [Nat.eq_of_beq_eq_true e]; rfl
        · rw [Nat.eq_of_beq_eq_true e]; rfl
      have hB := sxPut_ok (o := j / 100) hH.1 hz (sxNR.c0 hH.1 0) (by rw [key]; exact sxNR.c0 hH.1 0)
      exact ⟨_, List.mem_cons_self, ⟨⟨hF, hdd⟩, hl, hs, hH.to sxUp.rf hB, hC, hS⟩, rfl, rfl⟩
    · cases h
  · cases h
theorem sxSpSh_ok {j : Nat} {l : List sxS} (h : sxSpSh s j = some l) (hR : sxRel X gh scr v0 d0 σ s cF d cl cs H C S) : ∃ s' ∈ l, ∃ σ', sxUp σ σ' ∧ sxRel X gh scr v0 d0 σ' s' cF d cl cs H C S ∧ s'.2.1 = s.2.1 ∧ s'.2.2.1 = s.2.2.1 := by
  obtain ⟨F, k, pc, ls, st, B, O, G, C0, S0⟩ := s
  obtain ⟨⟨hF, hdd⟩, hl, hs, hH, hC, hS⟩ := hR
  dsimp only at hF hdd hl hs hH hC hS
  unfold sxSpSh at h
  dsimp only at h
  split at h
  · rename_i kd n hn
    split at h
    · rename_i u hu
      split at h
      · rename_i B0 w hw
        cases h
        obtain ⟨v, g3, g4⟩ := sxLR_get hl hn
        have hz : ∃ z : Int, sxNR σ n z := by
          cases kd
          · obtain ⟨w, -, hw⟩ := g4; exact ⟨_, hw⟩
          · obtain ⟨w, -, hw⟩ := g4; exact ⟨_, hw⟩
        obtain ⟨z, hz⟩ := hz
        obtain ⟨y0, v2, -, -, -, x, -, hx⟩ := hH.2.2.1 _ (sxOl_mem hu)
        have hx : sxNR σ u x.toInt := hx
        have h1 : sxNR σ (0, 1) ((1 : Int32).toInt) := sxNR.c0 hH.1 1
        obtain ⟨σ1, u1, k1, k2⟩ : sxGive (gT gh) σ (B0, w) (((1 : Int32) <<< (x &&& 31)).toInt) := sxRem1_ok (T := gT gh) hH.1 hw h1 hx (by show (Int32.ofInt (1 : Int32).toInt <<< (Int32.ofInt x.toInt &&& 31)).toInt = _; rw [Int32.ofInt_toInt, Int32.ofInt_toInt]) (fun w hw => sxShl_ok hH.1 hw h1 hx (sp_shl32 1 x))
        have hz1 := hz.up u1
        have fin : ∃ B2 ∈ sxLtC B0 n (0, 0) ++ (sxLeC B0 (0, 0) n).flatMap (fun B1 => sxLtC B1 n w ++ sxLeC B1 w n), sxBR (gT gh) σ1 B2 := by
          rcases Int.lt_or_le z 0 with hc | hc
          · obtain ⟨B2, m1, m2⟩ := sxLtC_ok k1 hz1 (sxNR.c0 k1 0) hc
            exact ⟨B2, List.mem_append_left _ m1, m2⟩
          · obtain ⟨B1, m1, m2⟩ := sxLeC_ok k1 (sxNR.c0 k1 0) hz1 hc
            rcases Int.lt_or_le z (((1 : Int32) <<< (x &&& 31)).toInt) with hd | hd
            · obtain ⟨B2, j1, j2⟩ := sxLtC_ok m2 hz1 k2 hd
              exact ⟨B2, List.mem_append_right _ (List.mem_flatMap.mpr ⟨B1, m1, List.mem_append_left _ j1⟩), j2⟩
            · obtain ⟨B2, j1, j2⟩ := sxLeC_ok m2 k2 hz1 hd
              exact ⟨B2, List.mem_append_right _ (List.mem_flatMap.mpr ⟨B1, m1, List.mem_append_right _ j1⟩), j2⟩
        obtain ⟨B2, m1, m2⟩ := fin
        exact ⟨_, List.mem_map.mpr ⟨B2, m1, rfl⟩, σ1, u1, ⟨⟨hF.up u1, hdd⟩, hl.up u1, sxSR.up u1 hs, hH.to u1 m2, hC, hS⟩, rfl, rfl⟩
      · cases h
    · cases h
  · cases h
theorem sxSplt_ok {i j : Nat} {l : List sxS} (hGd : sxGd X.1 gh) (h : sxSplt X.1 s i j = some l) (hR : sxRel X gh scr v0 d0 σ s cF d cl cs H C S) : ∃ s' ∈ l, ∃ σ', sxUp σ σ' ∧ sxRel X gh scr v0 d0 σ' s' cF d cl cs H C S ∧ s'.2.1 = s.2.1 ∧ s'.2.2.1 = s.2.2.1 := by
  obtain ⟨F, k, pc, ls, st, B, O, G, C0, S0⟩ := s
  obtain ⟨⟨hF, hdd⟩, hl, hs, hH, hC, hS⟩ := hR
  unfold sxSplt at h
  dsimp only at h
  split at h
  · split at h
    · rename_i q hq
      obtain ⟨σ1, u1, k1, k2, k3⟩ := hGd.2 σ B q.1 O q.2.1 G q.2.2 scr H j hH.1 hH.2.2.1 hH.2.2.2.1 hH.2.1.1 hq
      rw [sxBadD_no k1] at h
      cases h
      exact ⟨_, List.mem_cons_self, σ1, u1, ⟨⟨hF.up u1, hdd⟩, hl.up u1, sxSR.up u1 hs, ⟨k1, hH.2.1, k2, k3, hH.2.2.2.2.1, hH.2.2.2.2.2.up u1⟩, hC, hS⟩, rfl, rfl⟩
    · cases h
      exact ⟨_, List.mem_cons_self, σ, sxUp.rf, ⟨⟨hF, hdd⟩, hl, hs, hH, hC, hS⟩, rfl, rfl⟩
  split at h
  · obtain ⟨s', m1, m2, m3, m4⟩ := sxSpW_ok (s := (F, k, pc, ls, st, B, O, G, C0, S0)) (X := X) (gh := gh) (scr := scr) (v0 := v0) (d0 := d0) (σ := σ) h ⟨⟨hF, hdd⟩, hl, hs, hH, hC, hS⟩
    exact ⟨s', m1, σ, sxUp.rf, m2, m3, m4⟩
  split at h
  · obtain ⟨s', m1, m2, m3, m4⟩ := sxSpJ_ok (s := (F, k, pc, ls, st, B, O, G, C0, S0)) (X := X) (gh := gh) (scr := scr) (v0 := v0) (d0 := d0) (σ := σ) h ⟨⟨hF, hdd⟩, hl, hs, hH, hC, hS⟩
    exact ⟨s', m1, σ, sxUp.rf, m2, m3, m4⟩
  split at h
  · obtain ⟨s', m1, m2, m3, m4⟩ := sxSpWk_ok (s := (F, k, pc, ls, st, B, O, G, C0, S0)) (X := X) (gh := gh) (scr := scr) (v0 := v0) (d0 := d0) (σ := σ) h ⟨⟨hF, hdd⟩, hl, hs, hH, hC, hS⟩
    exact ⟨s', m1, σ, sxUp.rf, m2, m3, m4⟩
  split at h
  · obtain ⟨s', m1, m2, m3, m4⟩ := sxSpNr_ok (s := (F, k, pc, ls, st, B, O, G, C0, S0)) (X := X) (gh := gh) (scr := scr) (v0 := v0) (d0 := d0) (σ := σ) h ⟨⟨hF, hdd⟩, hl, hs, hH, hC, hS⟩
    exact ⟨s', m1, σ, sxUp.rf, m2, m3, m4⟩
  split at h
  · exact sxSpSh_ok (s := (F, k, pc, ls, st, B, O, G, C0, S0)) (X := X) (gh := gh) (scr := scr) (v0 := v0) (d0 := d0) (σ := σ) h ⟨⟨hF, hdd⟩, hl, hs, hH, hC, hS⟩
  split at h
  · obtain ⟨s', m1, m2, m3, m4⟩ := sxSpB_ok (s := (F, k, pc, ls, st, B, O, G, C0, S0)) (X := X) (gh := gh) (scr := scr) (v0 := v0) (d0 := d0) (σ := σ) h ⟨⟨hF, hdd⟩, hl, hs, hH, hC, hS⟩
    exact ⟨s', m1, σ, sxUp.rf, m2, m3, m4⟩
  split at h
  · cases h
  · rename_i B1 O1 hm
    obtain ⟨σ1, u1, hH1⟩ := sxMatz_ok hm hH
    split at h
    · rename_i kd n hn
      split at h
      · rename_i q hq
        cases h
        obtain ⟨z, v, g1, g2, g3, g4⟩ := hH1.2.2.1 _ (sxOl_mem hn)
        have hz : ∃ z : Int, sxNR σ1 n z := by
          cases kd
          · obtain ⟨w, -, hw⟩ := g4; exact ⟨_, hw⟩
          · obtain ⟨w, -, hw⟩ := g4; exact ⟨_, hw⟩
        obtain ⟨z, hz⟩ := hz
        have hr := sxRg_ok hH1.1 hq hz
        obtain ⟨B2, m1, m2⟩ := sxEqC_ok (y := (0, q.1 + Int.ofNat (z - q.1).toNat)) (Y := q.1 + Int.ofNat (z - q.1).toNat) hH1.1 hz ⟨0, hH1.1.1.2, by simp⟩ (by simp only [Int.ofNat_eq_natCast]; omega)
        exact ⟨_, List.mem_flatMap.mpr ⟨(z - q.1).toNat, List.mem_range.mpr (by omega), List.mem_map.mpr ⟨B2, m1, rfl⟩⟩, σ1, u1, ⟨⟨hF.up u1, hdd⟩, hl.up u1, sxSR.up u1 hs, hH1.to sxUp.rf m2, hC, hS⟩, rfl, rfl⟩
      · cases h
    · cases h
theorem sxTry_mem : ∀ {l : List sxCt} {L : List sxE1}, sxTry X s l = some L → ∃ c ∈ l, sxApp X c s = some L
  | [], _, h => by cases h
  | c :: r, L, h => by
    rw [sxTry_c] at h
    split at h
    · obtain ⟨c', h1, h2⟩ := sxTry_mem h
      exact ⟨c', List.mem_cons_of_mem _ h1, h2⟩
    · split at h
      · rename_i L' hL'
        cases h
        exact ⟨c, List.mem_cons_self, hL'⟩
      · obtain ⟨c', h1, h2⟩ := sxTry_mem h
        exact ⟨c', List.mem_cons_of_mem _ h1, h2⟩
theorem sxNext_ok (hGd : sxGd J.1.1 gh) (hK : J.1.1.2.1 < mjScr) (hd0 : J.1.2.2.1 ≤ d0) (hV : ∀ c ∈ J.2.1, sxCtV J.1.1 gh c) (h : sxNext J s = some L) (hu : sxUp τ σ) (hR : sxRel J.1 gh scr v0 d0 σ s cF d cl cs H C S) (hL : ∀ e ∈ L, sxAR J.1 gh scr v0 d0 Z τ e) : mjRn Z scr cF d s.2.1 s.2.2.1 cl cs H C S := by
  have one : ∀ {L1 : List sxE1}, sxStp J.1 s = some L1 → (∀ e ∈ L1, sxAR J.1 gh scr v0 d0 Z τ e) → mjRn Z scr cF d s.2.1 s.2.2.1 cl cs H C S := by
    intro L1 h1 h2
    obtain ⟨e, he, hg⟩ := sxStp_ok (Z := Z) hGd hK hd0 h1 hR
    exact (h2 e he).of hu hg
  have two : ∀ {i j : Nat}, (match sxSplt J.1.1 s i j with | none => none | some l => sxStpL J.1 l) = some L → mjRn Z scr cF d s.2.1 s.2.2.1 cl cs H C S := by
    intro i j h
    split at h
    · cases h
    · rename_i l hl
      obtain ⟨s', hs', σ', u', hR', e1, e2⟩ := sxSplt_ok hGd hl hR
      obtain ⟨L1, h1, h2⟩ := sxStpL_mem h s' hs'
      obtain ⟨e, he, hg⟩ := sxStp_ok (Z := Z) hGd hK hd0 h1 hR'
      rw [← e1, ← e2]
      exact (hL e (h2 e he)).of (hu.tr u') hg
  unfold sxNext at h
  split at h
  · split at h
    · exact one h hL
    · exact two h
  · split at h
    · split at h
      · split at h
        · rename_i L1 hL1
          cases h
          obtain ⟨c, hc, happ⟩ := sxTry_mem hL1
          exact sxApp_ok (hV c hc) happ hd0 hu hR hL
        · exact one h hL
      · exact one h hL
    · split at h
      · exact one h hL
      · exact two h
theorem sxSb_up {θ : List sxN} {r : Nat} (hτ : τ0.length = r) (hu : sxUp τ0 σ) (h : ∀ i, i < r → (sxSb σ θ)[i]? = some (σ.getD i 0)) : sxUp τ0 (sxSb σ θ) := by
  intro i z hi
  have hl := (List.getElem?_eq_some_iff.mp hi).1
  rw [h i (by omega), List.getD_eq_getElem?_getD, hu i z hi]
  rfl
theorem sxMv_up {m : sxM1} (h1 : m.1 < τ.length) (h2 : m.2.1 < τ.length) (hu : sxUp τ σ) : sxMv σ m = sxMv τ m := by
  unfold sxMv
  have e1 : σ.getD m.1 0 = τ.getD m.1 0 := by
    rw [List.getD_eq_getElem?_getD, List.getD_eq_getElem?_getD, hu _ _ (List.getElem?_eq_getElem h1), List.getElem?_eq_getElem h1]
  have e2 : σ.getD m.2.1 0 = τ.getD m.2.1 0 := by
    rw [List.getD_eq_getElem?_getD, List.getD_eq_getElem?_getD, hu _ _ (List.getElem?_eq_getElem h2), List.getElem?_eq_getElem h2]
  rw [e1, e2]
/-- symbols of a measure stand among the first ones -/
def sxMin (m : sxMe) (n : Nat) : Prop := (m.1.1 < n ∧ m.1.2.1 < n) ∧ (m.2.1.1 < n ∧ m.2.1.2.1 < n) ∧ m.2.2.1 < n ∧ m.2.2.2.1 < n
theorem sxGo_ok {me : Option sxMe} (hGd : sxGd J.1.1 gh) (hK : J.1.1.2.1 < mjScr) (hd0 : J.1.2.2.1 ≤ d0) (hV : ∀ c ∈ J.2.1, sxCtV J.1.1 gh c) (hu0 : sxUp τ0 τ) (hτ0 : τ0.length = J.2.2.2.2.1) (hr : 0 < J.2.2.2.2.1) (hmi : ∀ b, me = some b → sxMin b τ.length)
    (hC : ∀ u ∈ J.2.2.2.1, ∀ (τ' : List Int) (cl : mjL) (cs : List Value) (H : mjH) (C S : Nat), sxUp τ0 τ' → sxPtR (gT gh) J.1.1.2.1 (sxVw gh scr J.1.1.2.1 H) τ' u.2.1 cl cs → sxHR J.1.1 H → sxKp J.1.2.1 v0 (sxVw gh scr J.1.1.2.1 H) → C ≤ u.2.2.2.1 → S ≤ u.2.2.2.2 → (∀ b, me = some b → sxLt3 (sxMvs τ' u.2.2.1) (sxMvs τ b)) → mjRn Z scr [] d0 J.2.2.1 u.1 cl cs H C S)
    (hP : ∀ p ∈ J.2.2.2.2.2.1, ∀ (cv : Option Value) (τ' : List Int) (H : mjH) (C S : Nat), sxUp τ0 τ' → sxPtR (gT gh) J.1.1.2.1 (sxVw gh scr J.1.1.2.1 H) τ' p [] cv.toList → sxHR J.1.1 H → sxKp J.1.2.1 v0 (sxVw gh scr J.1.1.2.1 H) → C ≤ J.2.2.2.2.2.2.2.1.1 → S ≤ J.2.2.2.2.2.2.2.1.2 → Z (.inl cv, H, C, S))
    (hT : ∀ q ∈ J.2.2.2.2.2.2.1, ∀ (τ' : List Int) (H : mjH) (C S : Nat), sxUp τ0 τ' → sxPtR (gT gh) J.1.1.2.1 (sxVw gh scr J.1.1.2.1 H) τ' q.2 [] [] → sxHR J.1.1 H → sxKp J.1.2.1 v0 (sxVw gh scr J.1.1.2.1 H) → C ≤ J.2.2.2.2.2.2.2.1.1 → S ≤ J.2.2.2.2.2.2.2.1.2 → Z (.inr q.1, H, C, S)) :
    ∀ (n : Nat) (e : sxE1), sxGo J me n e = true → sxAR J.1 gh scr v0 d0 Z τ e
  | 0, e, h => by cases h
  | n + 1, e, h => by
    have fit : ∀ {p : sxPt} {st : List sxV} {vs : List Value} {σ : List Int} {B : sxB} {O : sxO} {G : sxG} {H : mjH}, sxFitP J st B O G p = true → sxUp τ σ → sxSR σ st vs → sxHS J.1 gh scr v0 σ B O G H → ∃ τ', sxUp τ0 τ' ∧ sxPtR (gT gh) J.1.1.2.1 (sxVw gh scr J.1.1.2.1 H) τ' p [] vs := by
      intro p st vs σ B O G H hf hu hs hH
      unfold sxFitP at hf
      split at hf
      · rename_i B1 O1 hm
        obtain ⟨σ1, u1, hH1⟩ := sxMat2_ok (sxQk2_some hm) hH
        rw [sxThk_eq] at hf
        obtain ⟨h1, h2⟩ := sxIncl_ok (n := J.1.1.2.1) (cl := []) hH1.1 ⟨fun i a ha => (by cases ha), fun q hq => (by cases hq)⟩ (sxSR.up u1 hs) hH1.2.2.1 hH1.2.2.2.1 hr hf
        exact ⟨_, sxSb_up hτ0 ((hu0.tr hu).tr u1) h2, h1⟩
      · cases hf
    match e, h with
    | .inr (.inl (v, B, O, G, C0, S0)), h =>
      intro σ cv H C S hu hv hH hC1 hS1
      have h : (match Nat.ble C0 J.2.2.2.2.2.2.2.1.1 with
        | true => (match Nat.ble S0 J.2.2.2.2.2.2.2.1.2 with
          | true => J.2.2.2.2.2.1.any (sxFitP J v.toList B O G)
          | false => false)
        | false => false) = true := h
      split at h
      · rename_i q1
        split at h
        · rename_i q2
          obtain ⟨p, hp, hf⟩ := List.any_eq_true.mp h
          have hs : sxSR σ v.toList cv.toList := by
            cases v <;> cases cv
            · exact trivial
            · exact hv.elim
            · exact hv.elim
            · exact ⟨hv, trivial⟩
          obtain ⟨τ', t1, t2⟩ := fit hf hu hs hH
          exact hP p hp cv τ' H C S t1 t2 hH.2.1 hH.2.2.2.2.1 (Nat.le_trans hC1 (Nat.le_of_ble_eq_true q1)) (Nat.le_trans hS1 (Nat.le_of_ble_eq_true q2))
        · cases h
      · cases h
    | .inr (.inr (E, B, O, G, C0, S0)), h =>
      intro σ H C S hu hH hC1 hS1
      have h : (match Nat.ble C0 J.2.2.2.2.2.2.2.1.1 with
        | true => (match Nat.ble S0 J.2.2.2.2.2.2.2.1.2 with
          | true => J.2.2.2.2.2.2.1.any (fun q => match Nat.beq q.1 E with | true => sxFitP J [] B O G q.2 | false => false)
          | false => false)
        | false => false) = true := h
      split at h
      · rename_i q1
        split at h
        · rename_i q2
          obtain ⟨q, hq, hf⟩ := List.any_eq_true.mp h
          split at hf
          · rename_i hE
            have hE := Nat.eq_of_beq_eq_true hE
            obtain ⟨τ', t1, t2⟩ := fit hf hu (show sxSR σ [] [] from trivial) hH
            rw [← hE]
            exact hT q hq τ' H C S t1 t2 hH.2.1 hH.2.2.2.2.1 (Nat.le_trans hC1 (Nat.le_of_ble_eq_true q1)) (Nat.le_trans hS1 (Nat.le_of_ble_eq_true q2))
          · cases hf
        · cases h
      · cases h
    | .inl s, h =>
      intro σ cF d cl cs H C S hu hR
      have hx : (match sxIsC J s with
        | true => J.2.2.2.1.any (sxFitC J me s.2.2.1 s.2.2.2.1 s.2.2.2.2.1 s.2.2.2.2.2.1 s.2.2.2.2.2.2.1 s.2.2.2.2.2.2.2.1 s.2.2.2.2.2.2.2.2.1 s.2.2.2.2.2.2.2.2.2)
        | false => match sxNext J s with
          | some L => sxAll L (sxGo J me n)
          | none => false) = true := h
      clear h
      split at hx
      · rename_i hisc
        obtain ⟨F, k, pc, ls, st, B, O, G, C0, S0⟩ := s
        obtain ⟨⟨hF, hdd⟩, hl, hs, hH, hC1, hS1⟩ := hR
        unfold sxIsC at hisc
        dsimp only at hisc hF hdd hl hs hH hC1 hS1 hx ⊢
        split at hisc
        · split at hisc
          · rename_i hk
            have hk := Nat.eq_of_beq_eq_true hk
            cases cF with
            | cons _ _ => exact hF.elim
            | nil =>
              have hd : d = d0 := by simpa using hdd
              subst hd
              obtain ⟨u, hu1, hf⟩ := List.any_eq_true.mp hx
              unfold sxFitC at hf
              split at hf
              · cases hf
              · rename_i e1
                have e1 := Nat.eq_of_beq_eq_true e1
                split at hf
                · cases hf
                · rename_i e2
                  split at hf
                  · cases hf
                  · rename_i e3
                    split at hf
                    · rename_i B1 O1 hm
                      obtain ⟨σ1, u1, hH1⟩ := sxMat2_ok (sxQk2_some hm) hH
                      simp only [sxThk_eq] at hf
                      split at hf
                      · cases hf
                      · rename_i hinc
                        obtain ⟨h1, h2⟩ := sxIncl_ok (n := J.1.1.2.1) hH1.1 (hl.up u1) (sxSR.up u1 hs) hH1.2.2.1 hH1.2.2.2.1 hr hinc
                        rw [hk, ← e1]
                        refine hC u hu1 _ cl cs H C S (sxSb_up hτ0 ((hu0.tr hu).tr u1) h2) h1 hH1.2.1 hH1.2.2.2.2.1 (Nat.le_trans hC1 (Nat.le_of_ble_eq_true e2)) (Nat.le_trans hS1 (Nat.le_of_ble_eq_true e3)) (fun b hb => ?_)
                        subst hb
                        dsimp only at hf
                        have hlt := sxMlt_ok hH1.1 hf
                        obtain ⟨⟨i1, i2⟩, ⟨i3, i4⟩, i5, i6⟩ := hmi b rfl
                        have e : sxMvs σ1 b = sxMvs τ b := by
                          unfold sxMvs
                          rw [sxMv_up i1 i2 (hu.tr u1), sxMv_up i3 i4 (hu.tr u1), sxMv_up i5 i6 (hu.tr u1)]
                        rw [← e]
                        exact hlt
                    · cases hf
          · cases hisc
        · cases hisc
      · split at hx
        · rename_i L hL
          exact sxNext_ok hGd hK hd0 hV hL hu hR (fun e he => sxGo_ok hGd hK hd0 hV hu0 hτ0 hr hmi hC hP hT n e (sxAll_mp hx e he))
        · cases hx
theorem sxSt_rel {p : sxPt} {v : Nat → Nat → Option Value} (hH : sxHR X.1 H) (hp : sxPtR (gT gh) X.1.2.1 (sxVw gh scr X.1.2.1 H) τ p cl cs) (hkp : sxKp X.2.1 v (sxVw gh scr X.1.2.1 H)) (hsl : X.2.2.2 = none) (hC : C ≤ C0) (hS : S ≤ S0) : sxRel X gh scr v d0 τ (sxSt k pc p C0 S0) [] d0 cl cs H C S := by
  obtain ⟨h1, h2, h3, h4, h5, h6, h7, h8⟩ := hp
  refine ⟨⟨trivial, rfl⟩, h4, h5, ⟨⟨h1, h2, h3, (fun q hq => by cases hq), h8⟩, hH, h6, h7, hkp, ?_⟩, hC, hS⟩
  rw [hsl]
  trivial
theorem sxPos_ok {p : sxPt} {m : sxM1} {vw : Nat → Nat → Option Value} {n : Nat} (h : sxPos p m = true) (hp : sxPtR T n vw τ p cl cs) : (m.1 < τ.length ∧ m.2.1 < τ.length) ∧ 0 ≤ sxMv τ m := by
  obtain ⟨h1, h2, h3, -⟩ := hp
  unfold sxPos at h
  split at h
  · rename_i q1
    have q1 := bltOk q1
    split at h
    · rename_i q2
      have q2 := bltOk q2
      have l1 : m.1 < τ.length := by rw [h1.1]; exact q1
      have l2 : m.2.1 < τ.length := by rw [h1.1]; exact q2
      refine ⟨⟨l1, l2⟩, ?_⟩
      have hB : sxBR T τ (p.1, p.2.1, p.2.2.1, [], []) := ⟨h1, h2, h3, (fun q hq => by cases hq), fun q hq => by cases hq⟩
      have := sxLe_ok hB h ⟨_, List.getElem?_eq_getElem l2, rfl⟩ ⟨_, List.getElem?_eq_getElem l1, rfl⟩
      unfold sxMv
      rw [List.getD_eq_getElem?_getD, List.getD_eq_getElem?_getD, List.getElem?_eq_getElem l1, List.getElem?_eq_getElem l2]
      simp only [Option.getD_some]
      omega
    · cases h
  · cases h
theorem sxMeB_ok {cts : List sxCt} {c : sxCt} {cuts : List sxCu} {sp : List (Nat × Nat × Nat)} (n : Nat) (h : sxMeB (sxJob K cts c cuts sp) c.2.2.1 n = true) (hGd : sxGd K gh) (hK : K.2.1 < mjScr) (hr : 0 < c.2.2.1.1) (hV : ∀ c' ∈ cts, sxCtV K gh c') : sxCtV K gh c := by
  intro scr Z d τ cl H hd hH hpre hpost hthr
  unfold sxMeB at h
  split at h
  · rename_i hcuts
    have hP : ∀ p ∈ (sxJob K cts c cuts sp).2.2.2.2.2.1, ∀ (cv : Option Value) (τ' : List Int) (H' : mjH) (C S : Nat), sxUp τ τ' → sxPtR (gT gh) K.2.1 (sxVw gh scr K.2.1 H') τ' p [] cv.toList → sxHR K H' → sxKp c.2.2.2.1 (sxVw gh scr K.2.1 H) (sxVw gh scr K.2.1 H') → C ≤ c.2.2.2.2.2.2.1 → S ≤ c.2.2.2.2.2.2.2 → Z (.inl cv, H', C, S) :=
      fun p hp cv τ' H' C S h1 h2 h3 h4 h5 h6 => hpost cv H' C S τ' p hp h1 h3 h2 h4 h5 h6
    have hT : ∀ q ∈ (sxJob K cts c cuts sp).2.2.2.2.2.2.1, ∀ (τ' : List Int) (H' : mjH) (C S : Nat), sxUp τ τ' → sxPtR (gT gh) K.2.1 (sxVw gh scr K.2.1 H') τ' q.2 [] [] → sxHR K H' → sxKp c.2.2.2.1 (sxVw gh scr K.2.1 H) (sxVw gh scr K.2.1 H') → C ≤ c.2.2.2.2.2.2.1 → S ≤ c.2.2.2.2.2.2.2 → Z (.inr q.1, H', C, S) :=
      fun q hq τ' H' C S h1 h2 h3 h4 h5 h6 => hthr q.1 H' C S τ' q.2 hq h1 h3 h2 h4 h5 h6
    have hcut : ∀ x : Int × Int × Int, (0 ≤ x.1 ∧ 0 ≤ x.2.1 ∧ 0 ≤ x.2.2) → ∀ u ∈ cuts, ∀ (τ' : List Int) (cl : mjL) (cs : List Value) (H' : mjH) (C S : Nat), sxUp τ τ' → sxPtR (gT gh) K.2.1 (sxVw gh scr K.2.1 H') τ' u.2.1 cl cs → sxHR K H' → sxKp c.2.2.2.1 (sxVw gh scr K.2.1 H) (sxVw gh scr K.2.1 H') → C ≤ u.2.2.2.1 → S ≤ u.2.2.2.2 → sxMvs τ' u.2.2.1 = x → mjRn Z scr [] d c.1 u.1 cl cs H' C S := by
      refine sxLex (fun x hx ih u hu τ' cl cs H' C S hup hpt hH' hkp hC hS hm => ?_)
      have hb := List.all_eq_true.mp hcuts u hu
      unfold sxCuB at hb
      split at hb
      · rename_i hpos
        unfold sxGo1 at hb
        split at hb
        · rename_i L hL
          have hpos3 : ((u.2.2.1.1.1 < τ'.length ∧ u.2.2.1.1.2.1 < τ'.length) ∧ 0 ≤ sxMv τ' u.2.2.1.1) ∧ ((u.2.2.1.2.1.1 < τ'.length ∧ u.2.2.1.2.1.2.1 < τ'.length) ∧ 0 ≤ sxMv τ' u.2.2.1.2.1) ∧ (u.2.2.1.2.2.1 < τ'.length ∧ u.2.2.1.2.2.2.1 < τ'.length) ∧ 0 ≤ sxMv τ' u.2.2.1.2.2 := by
            unfold sxPos3 at hpos
            split at hpos
            · rename_i p1
              split at hpos
              · rename_i p2
                exact ⟨sxPos_ok p1 hpt, sxPos_ok p2 hpt, sxPos_ok hpos hpt⟩
              · cases hpos
            · cases hpos
          refine sxNext_ok (J := sxJob K cts c cuts sp) (s := sxSt c.1 u.1 u.2.1 u.2.2.2.1 u.2.2.2.2) (v0 := sxVw gh scr K.2.1 H) (d0 := d) hGd hK hd hV hL (sxUp.rf : sxUp τ' τ') (sxSt_rel hH' hpt hkp rfl hC hS) (fun e he => ?_)
          refine sxGo_ok (J := sxJob K cts c cuts sp) (me := some u.2.2.1) hGd hK hd hV hup hpre.1.1 hr (fun b hb => ?_) (fun u' hu' τ2 cl2 cs2 H2 C2 S2 g1 g2 g3 g4 g5 g6 g7 => ?_) hP hT n e (sxAll_mp hb e he)
          · cases hb
            exact ⟨hpos3.1.1, hpos3.2.1.1, hpos3.2.2.1⟩
          · have hb' := List.all_eq_true.mp hcuts u' hu'
            unfold sxCuB at hb'
            split at hb'
            · rename_i hpos'
              unfold sxPos3 at hpos'
              split at hpos'
              · rename_i p1
                split at hpos'
                · rename_i p2
                  refine ih (sxMvs τ2 u'.2.2.1) ⟨(sxPos_ok p1 g2).2, (sxPos_ok p2 g2).2, (sxPos_ok hpos' g2).2⟩ ?_ u' hu' τ2 cl2 cs2 H2 C2 S2 g1 g2 g3 g4 g5 g6 rfl
                  rw [← hm]
                  exact g7 _ rfl
                · cases hpos'
              · cases hpos'
            · cases hb'
        · cases hb
      · cases hb
    unfold sxGo1 at h
    split at h
    · rename_i L hL
      refine sxNext_ok (J := sxJob K cts c cuts sp) (s := sxSt c.1 0 c.2.2.1 0 0) (v0 := sxVw gh scr K.2.1 H) (d0 := d) hGd hK hd hV hL (sxUp.rf : sxUp τ τ) (sxSt_rel hH hpre sxKp.rf rfl (Nat.le_refl _) (Nat.le_refl _)) (fun e he => ?_)
      refine sxGo_ok (J := sxJob K cts c cuts sp) (me := none) hGd hK hd hV (sxUp.rf : sxUp τ τ) hpre.1.1 hr (fun b hb => by cases hb) (fun u' hu' τ2 cl2 cs2 H2 C2 S2 g1 g2 g3 g4 g5 g6 g7 => ?_) hP hT n e (sxAll_mp h e he)
      have hb' := List.all_eq_true.mp hcuts u' hu'
      unfold sxCuB at hb'
      split at hb'
      · rename_i hpos'
        unfold sxPos3 at hpos'
        split at hpos'
        · rename_i p1
          split at hpos'
          · rename_i p2
            exact hcut (sxMvs τ2 u'.2.2.1) ⟨(sxPos_ok p1 g2).2, (sxPos_ok p2 g2).2, (sxPos_ok hpos' g2).2⟩ u' hu' τ2 cl2 cs2 H2 C2 S2 g1 g2 g3 g4 g5 g6 rfl
          · cases hpos'
        · cases hpos'
      · cases hb'
    · cases h
  · cases h
end SXMET
