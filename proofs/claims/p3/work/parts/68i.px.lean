/-! PX: a contract of two from a check -/
noncomputable section PX9
def pxJob (K : sxKx) (cts cts' : List sxCt) (pcts : List pxCt) (c : pxCt) (cuts : List pxCu) (sp sp' : List (Nat × Nat × Nat)) (ks : List Nat × List Nat) : pxJb :=
  (((K, c.2.2.2.1.1, c.2.1.1, none), cts, c.1.1, cuts.map (fun u => (u.1.1, u.2.1.1, u.2.2.1, 0, 0)), c.2.2.1.1.1, [], [], c.2.2.2.2.1.1, sp),
    ((K, c.2.2.2.1.2, c.2.1.2, none), cts', c.1.2, cuts.map (fun u => (u.1.2, u.2.1.2, u.2.2.1, 0, 0)), c.2.2.1.1.1, [], [], c.2.2.2.2.1.2, sp'), pcts, cuts, c.2.2.2.2.2, ks)
/-- both go one step, then on -/
def pxGo2 (J : pxJb) (me : Option sxMe) (n : Nat) (s s' : sxS) : Bool := pxStL J (fun e e' => match e' with | .inl s' => pxStR J (pxGo J me n) e s' | .inr _ => false) s (.inl s')
def pxCuB (J : pxJb) (n : Nat) (u : pxCu) : Bool := match sxPos3 u.2.1.1 u.2.2.1 with
  | true => pxGo2 J (some u.2.2.1) n (sxSt J.1.2.2.1 u.1.1 u.2.1.1 u.2.2.2.1.1 u.2.2.2.1.2) (sxSt J.2.1.2.2.1 u.1.2 u.2.1.2 u.2.2.2.2.1 u.2.2.2.2.2)
  | false => false
def pxMeB (J : pxJb) (pre : pxPt) (n : Nat) : Bool := match J.2.2.2.1.all (pxCuB J n) with
  | true => pxGo J none n (.inl (sxSt J.1.2.2.1 0 pre.1 0 0)) (.inl (sxSt J.2.1.2.2.1 0 pre.2 0 0))
  | false => false
variable {K : sxKx} {gh : sxGh}
theorem pxMeB_ok {cts cts' : List sxCt} {pcts : List pxCt} {c : pxCt} {cuts : List pxCu} {sp sp' : List (Nat × Nat × Nat)} {ks : List Nat × List Nat} (n : Nat) (h : pxMeB (pxJob K cts cts' pcts c cuts sp sp' ks) c.2.2.1 n = true) (hGd : sxGd K gh) (hK : K.2.1 < mjScr) (hr : 0 < c.2.2.1.1.1) (hV : ∀ c' ∈ cts, sxCtV K gh c') (hV' : ∀ c' ∈ cts', sxCtV K gh c') (hW : ∀ c' ∈ pcts, pxCtV K gh c') : pxCtV K gh c := by
  intro scr scr' Y d d' τ cl cl' H H' hd hd' hH hH' hpre hpre' hpost
  unfold pxMeB at h
  split at h
  · rename_i hcuts
    have hE : pxHE (pxJob K cts cts' pcts c cuts sp sp' ks) gh scr scr' (sxVw gh scr K.2.1 H) (sxVw gh scr' K.2.1 H') τ Y := fun p hp τ' cv Ha C S cv' Hb C' S' g1 g2 g3 g4 g5 g6 g7 g8 g9 =>
      hpost p hp _ _ τ' g1 ⟨cv, Ha, C, S, rfl, g4, g2, g6, g8.1, g8.2⟩ ⟨cv', Hb, C', S', rfl, g5, g3, g7, g9.1, g9.2⟩
    have hcut : ∀ x : Int × Int × Int, (0 ≤ x.1 ∧ 0 ≤ x.2.1 ∧ 0 ≤ x.2.2) → ∀ u ∈ cuts, ∀ (τ' : List Int) (cl : mjL) (cs : List Value) (Ha : mjH) (C S : Nat) (cl' : mjL) (cs' : List Value) (Hb : mjH) (C' S' : Nat), sxUp τ τ' → sxPtR (gT gh) K.2.1 (sxVw gh scr K.2.1 Ha) τ' u.2.1.1 cl cs → sxPtR (gT gh) K.2.1 (sxVw gh scr' K.2.1 Hb) τ' u.2.1.2 cl' cs' →
        sxHR K Ha → sxHR K Hb → sxKp c.2.2.2.1.1 (sxVw gh scr K.2.1 H) (sxVw gh scr K.2.1 Ha) → sxKp c.2.2.2.1.2 (sxVw gh scr' K.2.1 H') (sxVw gh scr' K.2.1 Hb) → (C ≤ u.2.2.2.1.1 ∧ S ≤ u.2.2.2.1.2) → (C' ≤ u.2.2.2.2.1 ∧ S' ≤ u.2.2.2.2.2) → sxMvs τ' u.2.2.1 = x →
        pxW scr scr' Y (.inl ([], d, c.1.1, u.1.1, cl, cs, Ha, C, S)) (.inl ([], d', c.1.2, u.1.2, cl', cs', Hb, C', S')) := by
      refine sxLex (fun x hx ih u hu τ' cl cs Ha C S cl' cs' Hb C' S' hup hpt hpt' hHa hHb hkp hkp' hC hC' hm => ?_)
      have hb := List.all_eq_true.mp hcuts u hu
      unfold pxCuB at hb
      split at hb
      · rename_i hpos
        have hpos3 : ((u.2.2.1.1.1 < τ'.length ∧ u.2.2.1.1.2.1 < τ'.length) ∧ 0 ≤ sxMv τ' u.2.2.1.1) ∧ ((u.2.2.1.2.1.1 < τ'.length ∧ u.2.2.1.2.1.2.1 < τ'.length) ∧ 0 ≤ sxMv τ' u.2.2.1.2.1) ∧ (u.2.2.1.2.2.1 < τ'.length ∧ u.2.2.1.2.2.2.1 < τ'.length) ∧ 0 ≤ sxMv τ' u.2.2.1.2.2 := by
          unfold sxPos3 at hpos
          split at hpos
          · rename_i p1
            split at hpos
            · rename_i p2
              exact ⟨sxPos_ok p1 hpt, sxPos_ok p2 hpt, sxPos_ok hpos hpt⟩
            · cases hpos
          · cases hpos
        have hgo := pxGo_ok (J := pxJob K cts cts' pcts c cuts sp sp' ks) (me := some u.2.2.1) (v0 := sxVw gh scr K.2.1 H) (v0' := sxVw gh scr' K.2.1 H') (d0 := d) (d0' := d') (scr := scr) (scr' := scr') rfl hGd hK hd hd' hV hV' hW hup hpre.1.1 hr (fun b hb => by cases hb; exact ⟨hpos3.1.1, hpos3.2.1.1, hpos3.2.2.1⟩)
          (fun u' hu' τ2 cl2 cs2 H2 C2 S2 cl2' cs2' H2' C2' S2' g1 g2 g2' g3 g3' g4 g4' g5 g6 g7 => by
            have hb' := List.all_eq_true.mp hcuts u' hu'
            unfold pxCuB at hb'
            split at hb'
            · rename_i hpos'
              unfold sxPos3 at hpos'
              split at hpos'
              · rename_i p1
                split at hpos'
                · rename_i p2
                  refine ih (sxMvs τ2 u'.2.2.1) ⟨(sxPos_ok p1 g2).2, (sxPos_ok p2 g2).2, (sxPos_ok hpos' g2).2⟩ ?_ u' hu' τ2 cl2 cs2 H2 C2 S2 cl2' cs2' H2' C2' S2' g1 g2 g2' g3 g3' g4 g4' g5 g6 rfl
                  rw [← hm]
                  exact g7 _ rfl
                · cases hpos'
              · cases hpos'
            · cases hb') hE n
        refine pxStL_ok (J := pxJob K cts cts' pcts c cuts sp sp' ks) (v0 := sxVw gh scr K.2.1 H) (v0' := sxVw gh scr' K.2.1 H') (d0 := d) (d0' := d') (τ := τ') hGd hK hd hV (fun e e' he => ?_) hb τ' _ _ sxUp.rf ⟨⟨rfl, rfl⟩, sxSt_rel hHa hpt hkp rfl hC.1 hC.2⟩ ⟨⟨rfl, rfl⟩, sxSt_rel hHb hpt' hkp' rfl hC'.1 hC'.2⟩
        cases e' with
        | inr q => cases he
        | inl s2 => exact pxStR_ok (J := pxJob K cts cts' pcts c cuts sp sp' ks) hGd hK hd' hV' hgo he
      · cases hb
    refine pxGo_ok (J := pxJob K cts cts' pcts c cuts sp sp' ks) (me := none) (v0 := sxVw gh scr K.2.1 H) (v0' := sxVw gh scr' K.2.1 H') (d0 := d) (d0' := d') (scr := scr) (scr' := scr') rfl hGd hK hd hd' hV hV' hW (sxUp.rf : sxUp τ τ) hpre.1.1 hr (fun b hb => by cases hb)
      (fun u' hu' τ2 cl2 cs2 H2 C2 S2 cl2' cs2' H2' C2' S2' g1 g2 g2' g3 g3' g4 g4' g5 g6 g7 => by
        have hb' := List.all_eq_true.mp hcuts u' hu'
        unfold pxCuB at hb'
        split at hb'
        · rename_i hpos'
          unfold sxPos3 at hpos'
          split at hpos'
          · rename_i p1
            split at hpos'
            · rename_i p2
              exact hcut (sxMvs τ2 u'.2.2.1) ⟨(sxPos_ok p1 g2).2, (sxPos_ok p2 g2).2, (sxPos_ok hpos' g2).2⟩ u' hu' τ2 cl2 cs2 H2 C2 S2 cl2' cs2' H2' C2' S2' g1 g2 g2' g3 g3' g4 g4' g5 g6 rfl
            · cases hpos'
          · cases hpos'
        · cases hb') hE n _ _ h τ (.inl ([], d, c.1.1, 0, cl, [], H, 0, 0)) (.inl ([], d', c.1.2, 0, cl', [], H', 0, 0)) sxUp.rf ⟨⟨rfl, rfl⟩, sxSt_rel hH hpre sxKp.rf rfl (Nat.le_refl _) (Nat.le_refl _)⟩ ⟨⟨rfl, rfl⟩, sxSt_rel hH' hpre' sxKp.rf rfl (Nat.le_refl _) (Nat.le_refl _)⟩
  · cases h
end PX9
