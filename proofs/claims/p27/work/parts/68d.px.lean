/-! PX: behind a call of two -/
noncomputable section PX4
/-- what stands behind: values, numbers, each side's overlay -/
abbrev pxQ : Type := (List sxV × List sxV) × sxB × (sxO × sxG) × (sxO × sxG)
def pxBh (n0 : Nat) (M M' : sxMo) (θ : List sxN) (B : sxB) (O : sxO) (G : sxG) (O' : sxO) (G' : sxG) (p p' : sxPt) : Option (List pxQ) := match Nat.ble n0 p.1 with
  | false => none
  | true => match sxFrs p.2.1 (p.1 - n0) n0 B θ with
    | none => none
    | some (B1, θ1) => sxThk θ1 fun θ1 => sxBk (sxAdD θ1 n0 p.2.1 B1) fun Bd => match sxCnD θ1 Bd p.2.1 with
      | true => some []
      | false => match sxCon θ1 Bd p.2.2.1 with
      | true => some []
      | false => sxBk (sxAdE θ1 p.2.2.1 Bd) fun B2 => match θ1.any (fun m => sxBad B2 m.1) with
      | true => some []
      | false => match sxTrS θ1 p.2.2.2.2.1, sxTrS θ1 p'.2.2.2.2.1 with
        | some vs, some vs' => (match sxTrO θ1 p.2.2.2.2.2.1 (sxKlO M O), sxTrO θ1 p'.2.2.2.2.2.1 (sxKlO M' O') with
          | some O2, some O2' => (match sxTrG θ1 p.2.2.2.2.2.2.1 (sxKlG M G), sxTrG θ1 p'.2.2.2.2.2.2.1 (sxKlG M' G') with
            | some G2, some G2' => sxBk (sxAdF θ1 p.2.2.2.2.2.2.2 B2) fun B3 => some [((vs, vs'), B3, (O2, G2), (O2', G2'))]
            | _, _ => none)
          | _, _ => none)
        | _, _ => none
variable {T : Nat} {σ τ τ' : List Int} {B : sxB} {O O' : sxO} {G G' : sxG} {θ : List sxN} {p p' : sxPt}
theorem pxBh_ok {vw vw' ww ww' : Nat → Nat → Option Value} {vs vs' : List Value} {l : List pxQ} {n n0 : Nat} {M M' : sxMo} (hB : sxBR T σ B) (hO : sxOR vw σ O) (hG : sxGR vw σ G) (hO' : sxOR ww σ O') (hG' : sxGR ww σ G') (hθ : sxTh σ θ τ) (hlen : θ.length = n0) (hu : sxUp τ τ') (hP : sxPtR T n vw' τ' p [] vs) (hP' : sxPtR T n ww' τ' p' [] vs') (hK : sxKp M vw vw') (hK' : sxKp M' ww ww') (h : pxBh n0 M M' θ B O G O' G' p p' = some l) :
    ∃ q ∈ l, ∃ σ', sxUp σ σ' ∧ sxBR T σ' q.2.1 ∧ (sxSR σ' q.1.1 vs ∧ sxOR vw' σ' q.2.2.1.1 ∧ sxGR vw' σ' q.2.2.1.2) ∧ sxSR σ' q.1.2 vs' ∧ sxOR ww' σ' q.2.2.2.1 ∧ sxGR ww' σ' q.2.2.2.2 := by
  obtain ⟨hp1, hp2, hp3, hp4, hp5, hp6, hp7, hp8⟩ := hP
  obtain ⟨hr1, hr2, hr3, hr4, hr5, hr6, hr7, hr8⟩ := hP'
  have hθ' : sxTh σ θ τ' := fun i m hm => by
    obtain ⟨z, h1, h2⟩ := hθ i m hm
    exact ⟨z, h1, hu _ _ h2⟩
  unfold pxBh at h
  split at h
  · cases h
  · split at h
    · cases h
    · rename_i B1 θ1 hfr
      simp only [sxThk_eq, sxBk_eq] at h
      obtain ⟨σ1, g1, g2, g3, g4⟩ := sxFrs_ok hp2 hfr hB hθ' hlen
      have g4b := sxAdD_ok (m := n0) g3 hp2 g2
      rw [sxCnD_no g4b g3 hp2] at h
      dsimp only at h
      rw [sxCon_no g4b g3 hp3] at h
      dsimp only at h
      have g5 := sxAdE_ok g3 hp3 g4b
      split at h
      · rename_i hbad
        obtain ⟨m, m1, m2⟩ := List.any_eq_true.mp hbad
        rw [sxBad_no g5] at m2
        cases m2
      · split at h
        · rename_i vs1 vs2 hvs hvs'
          split at h
          · rename_i O2 O2' hO2 hO2'
            split at h
            · rename_i G2 G2' hG2 hG2'
              cases h
              exact ⟨_, List.mem_cons_self, σ1, g1, sxAdF_ok g3 hp8 g5, ⟨sxTrS_th g3 hvs hp5, sxTrO_th g3 hO2 hp6 (sxKlO_ok g2 hK (hO.up g1)), sxTrG_th g3 hG2 hp7 (sxKlG_ok hK (hG.up g1))⟩, sxTrS_th g3 hvs' hr5, sxTrO_th g3 hO2' hr6 (sxKlO_ok g2 hK' (hO'.up g1)), sxTrG_th g3 hG2' hr7 (sxKlG_ok hK' (hG'.up g1))⟩
            · cases h
          · cases h
        · cases h
end PX4
