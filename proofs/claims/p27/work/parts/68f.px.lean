/-! PX: the check of two runs -/
noncomputable section PX6
abbrev pxCu : Type := (Nat × Nat) × pxPt × sxMe × ((Nat × Nat) × (Nat × Nat))
/-- both sides' jobs (of each: cells, what it may write, callees, its method, the places of its cuts, splits), contracts of two, cuts, how both end, the methods that go in pairs -/
abbrev pxJb : Type := sxJb × sxJb × List pxCq × List pxCu × List pxPt × (List Nat × List Nat)
def pxStop (J : sxJb) (ks : List Nat) : sxE1 → Bool
  | .inr _ => true
  | .inl s => match sxIsC J s with
    | true => true
    | false => match s with
      | (_ :: _, k, 0, _, [], _) => ks.any (Nat.beq k)
      | _ => false
def pxFit (J : pxJb) (me : Option sxMe) (mz : sxMe) (p : pxPt) (ls : sxL) (st : List sxV) (O : sxO) (G : sxG) (ls' : sxL) (st' : List sxV) (O' : sxO) (G' : sxG) (B : sxB) : Bool := match sxQk2 p.1.2.1 p.1 ls O B (fun _ => sxQk2 p.1.2.1 p.2 ls' O' B (fun _ => pxMat J.1.1.1 J.2.1.1.1 J.1.2.2.2.2.1 p ls st O G ls' st' O' G' B)) with
    | none => false
    | some (B2, O1, O2) => sxThk (pxMtc J.1.2.2.2.2.1 p ls st O1 ls' st' O2 B2) fun θ => match pxInc J.1.2.2.2.2.1 θ p ls st O1 G ls' st' O2 G' B2 with
      | false => false
      | true => match me with
        | none => true
        | some b => sxMlt B2 θ mz b
variable {J : pxJb} {me : Option sxMe} {gh : sxGh} {scr scr' : Option (List Int32)} {v0 v0' : Nat → Nat → Option Value} {σ τ τ0 : List Int} {B B' : sxB} {O O' : sxO} {G G' : sxG} {ls ls' : sxL} {st st' : List sxV} {cl cl' : mjL} {cs cs' : List Value} {H H' : mjH} {p : pxPt} {mz : sxMe} {X X' : sxCx}
theorem pxFit_ok (hJ : J.2.1.1.1 = J.1.1.1) (hτ0 : τ0.length = J.1.2.2.2.2.1) (hr : 0 < J.1.2.2.2.2.1) (hmi : ∀ b, me = some b → sxMin b τ.length) (hu0 : sxUp τ0 τ) (hu : sxUp τ σ) (h : pxFit J me mz p ls st O G ls' st' O' G' B = true)
    (hl : sxLR J.1.1.1.2.1 σ ls cl) (hs : sxSR σ st cs) (hH : sxHS J.1.1 gh scr v0 σ B O G H) (hl' : sxLR J.1.1.1.2.1 σ ls' cl') (hs' : sxSR σ st' cs') (hH' : sxHS J.2.1.1 gh scr' v0' σ B' O' G' H') :
    ∃ τ', sxUp τ0 τ' ∧ sxPtR (gT gh) J.1.1.1.2.1 (sxVw gh scr J.1.1.1.2.1 H) τ' p.1 cl cs ∧ sxPtR (gT gh) J.1.1.1.2.1 (sxVw gh scr' J.1.1.1.2.1 H') τ' p.2 cl' cs' ∧ ∀ b, me = some b → sxLt3 (sxMvs τ' mz) (sxMvs τ b) := by
  unfold pxFit at h
  split at h
  · cases h
  · rename_i B2 O1 O2 hm
    skip
    · skip
      simp only [sxThk_eq] at h
      split at h
      · cases h
      · rename_i hinc
        obtain ⟨σ2, u12, hH2, hH2'⟩ := pxMat_ok (sxQk2_some (sxQk2_some hm)) hH hH'
        obtain ⟨-, -, q1, q2, -, -⟩ := hH2'
        rw [hJ] at q1 q2
        obtain ⟨h1, h2, h3⟩ := pxInc_ok (vw' := sxVw gh scr' J.1.1.1.2.1 H') hH2.1 (hl.up u12) (sxSR.up u12 hs) hH2.2.2.1 hH2.2.2.2.1 (hl'.up u12) (sxSR.up u12 hs') q1 q2 hr hinc
        refine ⟨_, sxSb_up hτ0 ((hu0.tr hu).tr u12) h3, h1, h2, fun b hb => ?_⟩
        subst hb
        dsimp only at h
        have hlt := sxMlt_ok hH2.1 h
        obtain ⟨⟨i1, i2⟩, ⟨i3, i4⟩, i5, i6⟩ := hmi b rfl
        have e : sxMvs σ2 b = sxMvs τ b := by
          unfold sxMvs
          rw [sxMv_up i1 i2 (hu.tr u12), sxMv_up i3 i4 (hu.tr u12), sxMv_up i5 i6 (hu.tr u12)]
        rw [← e]
        exact hlt
end PX6
