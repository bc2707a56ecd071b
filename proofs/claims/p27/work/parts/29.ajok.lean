/-! AJ: one step is what the machine does -/
section AJOK
variable {scrA : Option (List aV)} {scr : Option (List Int32)} {k pc d C S : Nat} {F : List aFr} {cF : List cFr} {ls : aL} {st : List aV} {hp : aH} {cl : mjL} {cs : List Value} {H : mjH} {r : aSt ⊕ aEnd} {Z : mjO → Prop} {g : aKt}
theorem aXR_sco (h : aXR scrA scr) : aXR (mjSco scrA k) (mjSco scr k) := by
  unfold mjSco
  by_cases hk : k = mjLaw
  · rw [if_pos hk, if_pos hk]; exact h
  · rw [if_neg hk, if_neg hk]; exact trivial
theorem aNew1_ok {p N : Nat} {c : aC} {e : mjE} (hr : aNew1 k p c N F d ls st hp C S = some r) (hc : aCR c e) (hF : aGR F cF) (hl : aLR ls cl) (hs : aSR st cs) (hh : aHR hp H) :
    mjSca H.length 1 cl cs = true ∧ aGood Z scr (mjRn Z scr cF d k p cl (.ref H.length :: cs) (H ++ [e]) (C + 1) (S + N)) r := by
  unfold aNew1 at hr
  split at hr
  · rename_i hsc
    split at hr
    · rename_i l' hl'
      cases hr
      rw [hh.1] at hsc
      refine ⟨aScA_ok hl hs hsc, cF, cl, .ref H.length :: cs, H ++ [e], hF, hl, ⟨?_, hs⟩, hh.push hl' hc, id⟩
      rw [hh.1]
      rfl
    · cases hr
  · cases hr
theorem aCall_ok {i : Instr} {x : mjX} {y : MethodName} {nL : Nat} {ret : Option FieldType} {own : String} {hhh : List (Nat × Nat × Nat × Nat)} {np : Nat} {stt : Bool} (hxi : x.1 = i) (hM : mjM k = some (y, nL, ret, own, hhh, np, stt)) (hg : aCall k pc i x.2.2.1 = some g) (hr : g F d ls st hp C S = some r) (hF : aGR F cF) (hl : aLR ls cl) (hs : aSR st cs) (hh : aHR hp H)
    (hstep : ∀ rec : mjRec, mjStep rec (mjSco scr k) d k pc cl cs H = mjCall rec (mjSco scr k) d k pc x hhh cl cs H) : aGood Z scr (mjRn Z scr cF d k pc cl cs H C S) r := by
  unfold aCall at hg
  cases hM2 : mjM x.2.2.1 with
  | none => rw [hM2] at hg; cases hg
  | some q =>
    obtain ⟨y2, nL2, ret2, own2, hh2, np2, stt2⟩ := q
    rw [hM2] at hg
    dsimp only at hg
    split at hg
    · cases hg
    · rename_i hlaw
      cases hg
      dsimp only at hr
      generalize hn : (if stt2 = true then np2 else np2 + 1) = n at hr
      split at hr
      · rename_i hlen
        cases d with
        | zero => cases hr
        | succ d' =>
          dsimp only at hr
          split at hr
          · rename_i hc
            cases hr
            obtain ⟨hcat, hrecv, hfit, hsca⟩ := hc
            obtain ⟨ht, hd⟩ := aSR_split n hs
            have hta := aSR_rev ht
            have hA : mjArgs (if stt2 = true then np2 else np2 + 1) cs = some ((cs.take n).reverse, cs.drop n) := by
              rw [hn]
              unfold mjArgs
              rw [if_pos (by rw [aSR_len hs]; exact hlen)]
            have c1 : ((cs.drop n).map fun v => v.category).sum ≤ 8 := by rw [aSR_cat hd]; exact hcat
            have c2 : mjRecv x.1 own2 (cs.take n).reverse H = true := by
              rw [hxi]
              unfold aRecv at hrecv
              unfold mjRecv
              split at hrecv
              · split at hrecv
                · rename_i o w9 hw9
                  rw [hw9] at hta
                  obtain ⟨v, vs, hv9, h1, h2⟩ := aSR_c hta
                  cases (show v = .ref o from h1)
                  split at hrecv
                  · rename_i c hc9
                    obtain ⟨t, vs9, e1, e2⟩ := hh.get hc9
                    rw [hv9]
                    dsimp only
                    rw [e1]
                    dsimp only
                    rw [← (show c.1 = t from e2.1)]
                    exact hrecv
                  · cases hrecv
                · cases hrecv
              · split at hrecv
                · rename_i o w9 hw9
                  rw [hw9] at hta
                  obtain ⟨v, vs, hv9, h1, h2⟩ := aSR_c hta
                  cases (show v = .ref o from h1)
                  rw [hv9]
                · cases hrecv
              · rename_i hi1 hi2
                split
                · exact absurd rfl (hi1 _)
                · exact absurd rfl (hi2 _)
                · rfl
            have c3 : (lg_sl (cs.take n).reverse).length ≤ nL2 := by rw [aSR_lg hta]; exact hfit
            have c4 : mjSca H.length 0 cl (cs.drop n) = true := by rw [hh.1] at hsca; exact aScA_ok hl hd hsca
            refine ⟨(d' + 1, k, pc, H.length, cl, cs.drop n) :: cF, lv_args 0 (cs.take n).reverse, [], H, ⟨⟨⟨rfl, rfl, rfl, hh.1⟩, hl, hd⟩, hF⟩, aSR_args 0 hta, trivial, hh, fun z => ?_⟩
            obtain ⟨f1, o1, h1, h2, f2, o2, h3, h4⟩ := z
            have hsn : mjSco scr x.2.2.1 = none := if_neg hlaw
            rw [hsn] at h1
            refine ⟨max f1 f2 + 1, o2, ?_, h4⟩
            show mjStep (mjEx (max f1 f2)) _ _ _ _ _ _ _ = _
            rw [hstep]
            unfold mjCall
            rw [hM2]
            dsimp only
            rw [hA]
            dsimp only
            rw [if_pos ⟨c1, c2, c3, c4⟩, mjEx_mono (Nat.le_max_left f1 f2) _ _ _ _ _ _ _ _ h1]
            dsimp only at h2 ⊢
            rw [if_pos h2]
            have hhk : mjHh k = hhh := by unfold mjHh; rw [hM]
            rw [hhk] at h3
            exact mjBack_mono (mjEx_mono (Nat.le_max_right f1 f2)) h3
          · cases hr
      · cases hr
theorem aMath_ok {p : Nat} {f : Int32 → Int32 → Int32} (hr : aMath k p f F d ls st hp C S = some r) (hF : aGR F cF) (hl : aLR ls cl) (hs : aSR st cs) (hh : aHR hp H) :
    ∃ (y x : Int32) (rs : List Value), cs = .int y :: .int x :: rs ∧ (rs.map fun v => v.category).sum ≤ 8 ∧ aGood Z scr (mjRn Z scr cF d k p cl (.int (f x y) :: rs) H C S) r := by
  unfold aMath at hr
  split at hr
  · rename_i y x rs
    obtain ⟨vy, c1, rfl, h1, h2⟩ := aSR_c hs
    obtain ⟨vx, c2, rfl, h3, h4⟩ := aSR_c h2
    split at hr
    · rename_i hc
      split at hr
      · rename_i v hv
        cases hr
        obtain ⟨b, a, rfl, rfl, h5⟩ := aB32_ok hv h1 h3
        exact ⟨b, a, c2, rfl, by rw [aSR_cat h4]; exact hc, cF, cl, .int (f a b) :: c2, H, hF, hl, ⟨h5, h4⟩, hh, id⟩
      · cases hr
    · cases hr
  · cases hr
theorem aStepI_ok {x : mjX} (hx : mjAtI k pc = some x) (hg : aStepI (mjSco scrA k) k pc x = some g) (hr : g F d ls st hp C S = some r) (hF : aGR F cF) (hl : aLR ls cl) (hs : aSR st cs) (hh : aHR hp H) (hX : aXR scrA scr) : aGood Z scr (mjRn Z scr cF d k pc cl cs H C S) r := by
  unfold aStepI at hg
  cases hM : mjM k with
  | none => rw [hM] at hg; cases hg
  | some q =>
    obtain ⟨y, nL, ret, own, hhh, np, stt⟩ := q
    rw [hM] at hg
    have pl : ∀ {G : aFn}, aAlu x.1 pc x.2.2.2.1 = some G → (∀ rec : mjRec, mjStep rec (mjSco scr k) d k pc cl cs H = mjPl rec (mjSco scr k) d k pc x cl cs H) → (match G ls st with | some (pc', ls', st') => some (.inl (F, d, k, pc', ls', st', hp, C, S)) | none => none) = some r → aGood Z scr (mjRn Z scr cF d k pc cl cs H C S) r := by
      intro G hG hstep hr
      split at hr
      · rename_i pc' ls' st' hq
        cases hr
        obtain ⟨cl', cs', e1, e2, e3⟩ := aAlu_ok hG hq hl hs
        refine ⟨cF, cl', cs', H, hF, e2, e3, hh, fun z => z.plain (fun rec => ?_)⟩
        rw [hstep]
        unfold mjPl
        rw [e1]
      · cases hr
    have ph : ∀ {G : aHn}, aHp (mjSco scrA k) x pc = some G → (∀ rec : mjRec, mjStep rec (mjSco scr k) d k pc cl cs H = mjPl rec (mjSco scr k) d k pc x cl cs H) → (match G st hp with | some (pc', st', hp') => some (.inl (F, d, k, pc', ls, st', hp', C, S)) | none => none) = some r → aGood Z scr (mjRn Z scr cF d k pc cl cs H C S) r := by
      intro G hG hstep hr
      split at hr
      · rename_i pc' st' hp' hq
        cases hr
        obtain ⟨e0, cs', H', e1, e2, e3⟩ := aHp_ok hG hq hs hh (aXR_sco hX)
        refine ⟨cF, cl, cs', H', hF, hl, e2, e3, fun z => z.plain (fun rec => ?_)⟩
        rw [hstep]
        unfold mjPl
        rw [e0]
        dsimp only
        rw [e1]
      · cases hr
    obtain ⟨i, n, a, b, w⟩ := x
    cases i <;> dsimp only at hg
    case ireturn =>
      cases ret with
      | none => cases hg
      | some ty =>
        cases hg
        dsimp only at hr
        split at hr
        · rename_i a9
          split at hr
          · rename_i hn
            obtain ⟨v, vs, rfl, h1, h2⟩ := aSR_c hs
            cases aSR_n h2
            obtain ⟨z, rfl, hz⟩ := aNar_ok hn h1
            exact (aPop_ok (cv := some (.int z)) hr h1 hF hh).imp (fun q => mjRn.stop (fun rec => by simp only [mjStep, hx, hM, mjRv]; rw [if_pos hz]) q)
          · cases hr
        · cases hr
    case lreturn =>
      split at hg
      · rename_i hret
        subst hret
        cases hg
        dsimp only at hr
        split at hr
        · rename_i a9
          split at hr
          · rename_i hn
            obtain ⟨v, vs, rfl, h1, h2⟩ := aSR_c hs
            cases aSR_n h2
            obtain ⟨z, rfl⟩ := aK1 h1 hn
            exact (aPop_ok (cv := some (.long z)) hr h1 hF hh).imp (fun q => mjRn.stop (fun rec => by simp only [mjStep, hx, hM, mjRv]; rw [if_pos trivial]) q)
          · cases hr
        · cases hr
      · cases hg
    case areturn =>
      split at hg
      · cases hg
        dsimp only at hr
        split at hr
        · rename_i a9
          split at hr
          · rename_i hn
            obtain ⟨v, vs, rfl, h1, h2⟩ := aSR_c hs
            cases aSR_n h2
            obtain ⟨z, rfl⟩ := aK2 h1 hn
            exact (aPop_ok (cv := some (.ref z)) hr h1 hF hh).imp (fun q => mjRn.stop (fun rec => by simp only [mjStep, hx, hM, mjRv]) q)
          · cases hr
        · cases hr
      · cases hg
    case return_ =>
      split at hg
      · rename_i hret
        subst hret
        cases hg
        dsimp only at hr
        split at hr
        · cases aSR_n hs
          exact (aPop_ok (cv := none) hr trivial hF hh).imp (fun q => mjRn.stop (fun rec => by simp only [mjStep, hx, hM, mjRv]; rw [if_pos trivial]) q)
        · cases hr
      · cases hg
    case new z0 =>
      split at hg
      · rename_i h0
        split at hg
        · rename_i rr hrr
          cases hg
          obtain ⟨e1, e2⟩ := aNew1_ok (Z := Z) (scr := scr) hr (aFrs_r a rr.2.2) hF hl hs hh
          refine e2.imp (fun q => q.next (a := 1) (b := rr.2.2) (fun rec => ?_))
          simp only [mjStep, hx, hM]
          rw [if_pos h0, hrr]
          dsimp only
          rw [if_pos e1]
        · cases hg
      · rename_i h0
        split at hg
        · rename_i hthr
          cases hg
          dsimp only at hr
          split at hr
          · rename_i hcat
            refine (aThrow_ok (Z := Z) (scr := scr) hr hF hh).imp (fun q => mjRn.stop (fun rec => ?_) q)
            simp only [mjStep, hx, hM]
            rw [if_neg h0, if_pos ⟨hthr, by rw [aSR_cat hs]; exact hcat⟩]
          · cases hr
        · cases hg
    case newarray z0 =>
      cases hg
      unfold aNewA at hr
      split at hr
      · rename_i n9 r9
        obtain ⟨v, vs, rfl, h1, h2⟩ := aSR_c hs
        cases (show v = .int n9 from h1)
        split at hr
        · rename_i hc
          obtain ⟨e1, e2⟩ := aNew1_ok (Z := Z) (scr := scr) hr (aZr_r _ _) hF hl h2 hh
          refine e2.imp (fun q => q.next (a := 1) (b := n9.toNatClampNeg) (fun rec => ?_))
          simp only [mjStep, hx, hM]
          rw [if_pos ⟨hc.1, hc.2, e1⟩]
        · cases hr
      · cases hr
    case anewarray z0 =>
      cases hg
      unfold aNewA at hr
      split at hr
      · rename_i n9 r9
        obtain ⟨v, vs, rfl, h1, h2⟩ := aSR_c hs
        cases (show v = .int n9 from h1)
        split at hr
        · rename_i hc
          obtain ⟨e1, e2⟩ := aNew1_ok (Z := Z) (scr := scr) hr (aZr_r _ _) hF hl h2 hh
          refine e2.imp (fun q => q.next (a := 1) (b := n9.toNatClampNeg) (fun rec => ?_))
          simp only [mjStep, hx, hM]
          rw [if_pos ⟨hc.1, hc.2, e1⟩]
        · cases hr
      · cases hr
    case multianewarray z0 z1 =>
      cases hg
      unfold aNewM at hr
      split at hr
      · rename_i m9 n9 r9
        obtain ⟨v, vs, rfl, h1, h2⟩ := aSR_c hs
        cases (show v = .int m9 from h1)
        obtain ⟨v, vs, rfl, h3, h4⟩ := aSR_c h2
        cases (show v = .int n9 from h3)
        split at hr
        · rename_i hc
          split at hr
          · rename_i l1 hl1
            split at hr
            · rename_i l2 hl2
              cases hr
              have hsc : mjSca H.length (1 + n9.toNatClampNeg) cl vs = true := by
                have := hc.2.2
                rw [hh.1] at this
                exact aScA_ok hl h4 this
              have hp1 := hh.push hl1 (aOut_r hp.1 n9.toNatClampNeg)
              have hp2 := aHR.pushN (aZr_r 100 m9.toNatClampNeg) _ hp1 hl2
              rw [List.append_assoc, hh.1] at hp2
              refine ⟨cF, cl, .ref H.length :: vs, H ++ mjMulti H.length n9.toNatClampNeg m9.toNatClampNeg, hF, hl, ⟨by rw [hh.1]; rfl, h4⟩, by rw [hh.1]; exact hp2, fun q => q.next (a := 1 + n9.toNatClampNeg) (b := n9.toNatClampNeg + n9.toNatClampNeg * m9.toNatClampNeg) (fun rec => ?_)⟩
              simp only [mjStep, hx, hM]
              rw [if_pos ⟨hc.1, hc.2.1, hsc⟩]
            · cases hr
          · cases hr
        · cases hr
      · cases hr
    case invokespecial z0 =>
      split at hg
      · rename_i h0
        cases hg
        dsimp only at hr
        split at hr
        · rename_i v9 r9
          split at hr
          · rename_i hc
            cases hr
            obtain ⟨v, vs, rfl, h1, h2⟩ := aSR_c hs
            obtain ⟨z, rfl⟩ := aK2 h1 hc.1
            refine ⟨cF, cl, vs, H, hF, hl, h2, hh, fun q => q.plain (fun rec => ?_)⟩
            simp only [mjStep, hx, hM]
            rw [if_pos h0, if_pos (by rw [aSR_cat h2]; exact hc.2)]
          · cases hr
        · cases hr
      · rename_i h0
        exact aCall_ok (x := (.invokespecial z0, n, a, b, w)) rfl hM hg hr hF hl hs hh (fun rec => by simp only [mjStep, hx, hM]; rw [if_neg h0])
    case invokevirtual z0 =>
      split at hg
      · cases hg
      · rename_i h0
        exact aCall_ok (x := (.invokevirtual z0, n, a, b, w)) rfl hM hg hr hF hl hs hh (fun rec => by simp only [mjStep, hx, hM]; rw [if_neg h0])
    case invokestatic z0 =>
      split at hg
      · rename_i h0
        cases hg
        obtain ⟨y9, x9, rs, rfl, h1, h2⟩ := aMath_ok (Z := Z) (scr := scr) hr hF hl hs hh
        refine h2.imp (fun q => q.plain (fun rec => ?_))
        simp only [mjStep, hx, hM]
        rw [if_pos h0, if_pos h1]
      · rename_i h0
        split at hg
        · rename_i h3
          cases hg
          obtain ⟨y9, x9, rs, rfl, h1, h2⟩ := aMath_ok (Z := Z) (scr := scr) hr hF hl hs hh
          refine h2.imp (fun q => q.plain (fun rec => ?_))
          simp only [mjStep, hx, hM]
          rw [if_neg h0, if_pos h3, if_pos h1]
        · rename_i h3
          exact aCall_ok (x := (.invokestatic z0, n, a, b, w)) rfl hM hg hr hF hl hs hh (fun rec => by simp only [mjStep, hx, hM]; rw [if_neg h0, if_neg h3])
    all_goals
      (split at hg
       · rename_i G hG
         cases hg
         exact pl hG (fun rec => by simp only [mjStep, hx, hM]; rfl) hr
       · split at hg
         · rename_i G hG
           cases hg
           exact ph hG (fun rec => by simp only [mjStep, hx, hM]; rfl) hr
         · cases hg)
theorem aStepAt_ok (hg : aStepAt scrA k pc = some g) (hr : g F d ls st hp C S = some r) (hF : aGR F cF) (hl : aLR ls cl) (hs : aSR st cs) (hh : aHR hp H) (hX : aXR scrA scr) : aGood Z scr (mjRn Z scr cF d k pc cl cs H C S) r := by
  unfold aStepAt at hg
  split at hg
  · rename_i x hx
    exact aStepI_ok hx hg hr hF hl hs hh hX
  · cases hg
end AJOK
