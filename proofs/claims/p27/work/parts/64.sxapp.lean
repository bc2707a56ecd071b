/-! SX: the use of a contract is sound -/
noncomputable section SXAPP
variable {T : Nat} {X : sxCx} {gh : sxGh} {scr : Option (List Int32)} {v0 : Nat → Nat → Option Value} {d0 : Nat} {Z : mjO → Prop} {τ τ' σ σ' : List Int} {F : List sxFm} {cF : List cFr} {k pc d C S C0 S0 : Nat} {ls : sxL} {st : List sxV} {B B' : sxB} {O O' : sxO} {G G' : sxG} {cl : mjL} {cs : List Value} {H H' : mjH} {L : List sxE1} {c : sxCt} {θ : List sxN} {p : sxPt}
theorem sxBh_ok {vw vw' : Nat → Nat → Option Value} {vs : List Value} {l : List (List sxV × sxB × sxO × sxG)} {n : Nat} (hB : sxBR T σ B) (hO : sxOR vw σ O) (hG : sxGR vw σ G) (hθ : sxTh σ θ τ) (hlen : θ.length = c.2.2.1.1) (hu : sxUp τ τ') (hP : sxPtR T n vw' τ' p [] vs) (hK : sxKp c.2.2.2.1 vw vw') (h : sxBh c θ B O G p = some l) :
    ∃ q ∈ l, ∃ σ', sxUp σ σ' ∧ sxBR T σ' q.2.1 ∧ sxSR σ' q.1 vs ∧ sxOR vw' σ' q.2.2.1 ∧ sxGR vw' σ' q.2.2.2 := by
  obtain ⟨hp1, hp2, hp3, hp4, hp5, hp6, hp7, hp8⟩ := hP
  have hθ' : sxTh σ θ τ' := fun i m hm => by
    obtain ⟨z, h1, h2⟩ := hθ i m hm
    exact ⟨z, h1, hu _ _ h2⟩
  unfold sxBh at h
  split at h
  · cases h
  · split at h
    · cases h
    · rename_i B1 θ1 hfr
      simp only [sxThk_eq, sxBk_eq] at h
      obtain ⟨σ1, g1, g2, g3, g4⟩ := sxFrs_ok hp2 hfr hB hθ' hlen
      have g4b := sxAdD_ok (m := c.2.2.1.1) g3 hp2 g2
      rw [sxCnD_no g4b g3 hp2] at h
      dsimp only at h
      rw [sxCon_no g4b g3 hp3] at h
      dsimp only at h
      have g5 := sxAdE_ok g3 hp3 g4b
      split at h
      · rename_i hbad
        obtain ⟨m, m1, m2⟩ := List.any_eq_true.mp hbad
        rw [sxBad_no g5] at m2
        cases m2
      · split at h
        · rename_i vs1 hvs
          split at h
          · rename_i O2 hO2
            split at h
            · rename_i G2 hG2
              cases h
              exact ⟨_, List.mem_cons_self, σ1, g1, sxAdF_ok g3 hp8 g5, sxTrS_th g3 hvs hp5, sxTrO_th g3 hO2 hp6 (sxKlO_ok g2 hK (hO.up g1)), sxTrG_th g3 hG2 hp7 (sxKlG_ok hK (hG.up g1))⟩
            · cases h
          · cases h
        · cases h
theorem sxMsb_ok {M1 M : sxMo} (h : sxMsb M1 M = true) {i j : Nat} (hm : sxMd M1 i j = true) : sxMd M i j = true := by
  obtain ⟨q, h1, h2⟩ := List.any_eq_true.mp hm
  obtain ⟨m, h3, h4⟩ := List.any_eq_true.mp (List.all_eq_true.mp h q h1)
  refine List.any_eq_true.mpr ⟨m, h3, ?_⟩
  split at h2
  · rename_i e1
    split at h4
    · rename_i e2
      rw [sxMs1_ok e2 e1]
      dsimp only
      split at h4
      · rename_i e4
        rw [e4]
      · rename_i k e4
        rw [e4]
        dsimp only
        split at h4
        · cases h4
        · rename_i j' e5
          rw [e5] at h2
          dsimp only at h2
          rw [Nat.eq_of_beq_eq_true h4]
          exact h2
    · cases h4
  · cases h2
theorem sxKp.sub {M1 M : sxMo} {a b : Nat → Nat → Option Value} (h : sxMsb M1 M = true) (hk : sxKp M1 a b) : sxKp M a b := fun i j hij => by
  refine hk i j ?_
  cases hm : sxMd M1 i j with
  | false => rfl
  | true => rw [sxMsb_ok h hm] at hij; cases hij
theorem sxBhR_mem {ps : List sxPt} : ∀ {L : List sxE1} {rest : List sxV}, sxBhR c θ B O G k pc ls rest F C S ps = some L → p ∈ ps → ∃ l, sxBh c θ B O G p = some l ∧ ∀ q ∈ l, (.inl (F, k, pc + 3, ls, q.1 ++ rest, q.2.1, q.2.2.1, q.2.2.2, C + c.2.2.2.2.2.2.1, S + c.2.2.2.2.2.2.2) : sxE1) ∈ L := by
  induction ps with
  | nil => intro L rest _ hp; cases hp
  | cons a ps ih =>
    intro L rest h hp
    rw [sxBhR_c] at h
    split at h
    · cases h
    · rename_i l hl
      split at h
      · cases h
      · rename_i L' hL'
        cases h
        rcases List.mem_cons.mp hp with rfl | hp
        · exact ⟨l, hl, fun q hq => List.mem_append_left _ (List.mem_map.mpr ⟨q, hq, rfl⟩)⟩
        · obtain ⟨l2, h1, h2⟩ := ih hL' hp
          exact ⟨l2, h1, fun q hq => List.mem_append_right _ (h2 q hq)⟩
theorem sxThL_mem {E C1 S1 : Nat} : ∀ {l : List (List sxV × sxB × sxO × sxG)} {L : List sxE1}, sxThL F E C1 S1 l = some L → ∀ q ∈ l, ∃ e ∈ L, sxThrow F E q.2.1 q.2.2.1 q.2.2.2 C1 S1 = some e
  | [], _, _, q, hq => by cases hq
  | a :: l, L, h, q, hq => by
    rw [sxThL_c] at h
    split at h
    · cases h
    · rename_i e he
      split at h
      · cases h
      · rename_i L' hL'
        cases h
        rcases List.mem_cons.mp hq with rfl | hq
        · exact ⟨e, List.mem_cons_self, he⟩
        · obtain ⟨e2, h1, h2⟩ := sxThL_mem hL' q hq
          exact ⟨e2, List.mem_cons_of_mem _ h1, h2⟩
theorem sxBhT_mem {E : Nat} {ps : List (Nat × sxPt)} : ∀ {L : List sxE1}, sxBhT c θ B O G F C S ps = some L → (E, p) ∈ ps → ∃ l, sxBh c θ B O G p = some l ∧ ∀ q ∈ l, ∃ e ∈ L, sxThrow F E q.2.1 q.2.2.1 q.2.2.2 (C + c.2.2.2.2.2.2.1) (S + c.2.2.2.2.2.2.2) = some e := by
  induction ps with
  | nil => intro L _ hp; cases hp
  | cons a ps ih =>
    intro L h hp
    rw [sxBhT_c] at h
    split at h
    · cases h
    · rename_i l hl
      split at h
      · cases h
      · rename_i L1 hL1
        split at h
        · cases h
        · rename_i L2 hL2
          cases h
          rcases List.mem_cons.mp hp with rfl | hp
          · refine ⟨l, hl, fun q hq => ?_⟩
            obtain ⟨e, h1, h2⟩ := sxThL_mem hL1 q hq
            exact ⟨e, List.mem_append_left _ h1, h2⟩
          · obtain ⟨l2, h1, h2⟩ := ih hL2 hp
            refine ⟨l2, h1, fun q hq => ?_⟩
            obtain ⟨e, h3, h4⟩ := h2 q hq
            exact ⟨e, List.mem_append_right _ h3, h4⟩
theorem sxApp_ok {s : sxS} (hV : sxCtV X.1 gh c) (h : sxApp X c s = some L) (hd0 : X.2.2.1 ≤ d0) (hu : sxUp τ σ) (hR : sxRel X gh scr v0 d0 σ s cF d cl cs H C S) (hL : ∀ e ∈ L, sxAR X gh scr v0 d0 Z τ e) : mjRn Z scr cF d s.2.1 s.2.2.1 cl cs H C S := by
  unfold sxApp at h
  split at h
  · rename_i k' pc' ls' rest' F' k ls B O G C9 S9
    split at h
    · cases h
    · rename_i hk
      have hk := Nat.eq_of_beq_eq_true hk
      split at h
      · cases h
      · rename_i hneed
        have hneed := Nat.le_of_ble_eq_true hneed
        split at h
        · cases h
        · rename_i hms
          split at h
          · cases h
          · rename_i B1 O1 hmt
            simp only [sxThk_eq, sxBk_eq] at h
            split at h
            · cases h
            · rename_i hinc
              split at h
              · cases h
              · rename_i L1 hL1
                split at h
                · cases h
                · rename_i L2 hL2
                  cases h
                  obtain ⟨⟨hF, hdd⟩, hl, hs, hH, hC, hS⟩ := hR
                  dsimp only at hF hdd hl hs hH hC hS ⊢
                  cases sxSR_n hs
                  cases cF with
                  | nil => exact hF.elim
                  | cons cq cF' =>
                    obtain ⟨d1, k1, pc1, n1, ls1, rest1⟩ := cq
                    obtain ⟨⟨e1, e2, e3, e4⟩, ⟨e5, e6⟩, e7⟩ := hF
                    dsimp only at e1 e2 e3 e4 e5 e6
                    subst e1 e2 e3 e4
                    obtain ⟨σ1, u1, hH1⟩ := sxMat2_ok (sxQk2_some hmt) hH
                    obtain ⟨hpt, hrig⟩ := sxIncl_ok hH1.1 (hl.up u1) (show sxSR σ1 [] [] from trivial) hH1.2.2.1 hH1.2.2.2.1 (Nat.lt_succ_self 0) hinc
                    have hθl : (sxMtc 1 c.2.2.1 ls [] B1 O1).length = c.2.2.1.1 := by
                      have := hpt.1.1
                      unfold sxSb at this
                      rw [List.length_map] at this
                      exact this
                    have hθs : ∀ m ∈ sxMtc 1 c.2.2.1 ls [] B1 O1, m.1 < σ1.length := by
                      unfold sxIncl at hinc
                      split at hinc
                      · split at hinc
                        · rename_i q2
                          intro m hm
                          have := List.all_eq_true.mp q2 m hm
                          rw [hH1.1.1.1]
                          exact bltOk this
                        · cases hinc
                      · cases hinc
                    generalize sxMtc 1 c.2.2.1 ls [] B1 O1 = θ at hinc hL1 hL2 hpt hrig hθl hθs
                    have hth : sxTh σ1 θ (sxSb σ1 θ) := fun i m hm => ⟨_, sxEv_nr (hθs m (by rw [aNth_eq] at hm; exact List.mem_of_getElem? hm)), sxSb_get hm⟩
                    have hdn : c.2.1 ≤ d := by
                      simp only [List.length_cons] at hdd
                      omega
                    have hrun := hV scr (fun o => mjFin Z scr ((d + 1, k', pc', X.1.2.1, ls1, rest1) :: cF') C S o) d (sxSb σ1 θ) cl H hdn hH1.2.1 hpt ?_ ?_
                    · rw [← hk] at hrun
                      obtain ⟨f, o, o1, o2⟩ := hrun
                      refine ⟨f, o, o1, ?_⟩
                      have o3 : mjFin Z scr ((d + 1, k', pc', X.1.2.1, ls1, rest1) :: cF') C S (o.1, o.2.1, 0 + o.2.2.1, 0 + o.2.2.2) := o2
                      rw [Nat.zero_add, Nat.zero_add] at o3
                      exact o3
                    · intro cv H' C1 S1 τ' p hp hu' hH' hP' hK' hC1 hS1
                      obtain ⟨l, hl1, hl2⟩ := sxBhR_mem hL1 hp
                      obtain ⟨q, hq, σ2, g1, g2, g3, g4, g5⟩ := sxBh_ok (n := X.1.2.1) hH1.1 hH1.2.2.1 hH1.2.2.2.1 hth hθl hu' hP' hK' hl1
                      have ha := hL _ (List.mem_append_left _ (hl2 q hq))
                      refine mjFin.retC (by rw [hH'.1]; exact Nat.le_refl _) ?_
                      exact ha σ2 cF' (d + 1) ls1 (cv.toList ++ rest1) H' (C + C1) (S + S1) ((hu.tr u1).tr g1) ⟨⟨e7.up (u1.tr g1), by simp only [List.length_cons] at hdd; show d + 1 + F'.length = d0; omega⟩, e5.up (u1.tr g1), sxSR_app g3 (sxSR.up (u1.tr g1) e6), ⟨g2, hH', g4, g5, hH1.2.2.2.2.1.tr (hK'.sub hms), hH1.2.2.2.2.2.up g1⟩, by dsimp only; omega, by dsimp only; omega⟩
                    · intro E H' C1 S1 τ' p hp hu' hH' hP' hK' hC1 hS1
                      obtain ⟨l, hl1, hl2⟩ := sxBhT_mem hL2 hp
                      obtain ⟨q, hq, σ2, g1, g2, g3, g4, g5⟩ := sxBh_ok (n := X.1.2.1) hH1.1 hH1.2.2.1 hH1.2.2.2.1 hth hθl hu' hP' hK' hl1
                      obtain ⟨e, he, hth2⟩ := hl2 q hq
                      have ha := hL e (List.mem_append_right _ he)
                      have hFF : sxFs σ2 X.1.2.1 d ((k', pc', ls', rest') :: F') ((d + 1, k', pc', X.1.2.1, ls1, rest1) :: cF') := ⟨⟨rfl, rfl, rfl, rfl⟩, ⟨e5.up (u1.tr g1), sxSR.up (u1.tr g1) e6⟩, e7.up (u1.tr g1)⟩
                      have hHS : sxHS X gh scr v0 σ2 q.2.1 q.2.2.1 q.2.2.2 H' := ⟨g2, hH', g4, g5, hH1.2.2.2.2.1.tr (hK'.sub hms), hH1.2.2.2.2.2.up g1⟩
                      exact ha.of ((hu.tr u1).tr g1) (sxThrow_ok (Z := Z) (C := C) (S := S) (c := C1) (s := S1) hth2 hFF hdd hHS (by omega) (by omega))
  · cases h
end SXAPP
