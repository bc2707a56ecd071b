/-! SX: one step is sound -/
noncomputable section SXSOK
variable {X : sxCx} {gh : sxGh} {scr : Option (List Int32)} {v0 : Nat → Nat → Option Value} {d0 : Nat} {Z : mjO → Prop} {σ σ' : List Int} {F : List sxFm} {cF : List cFr} {k pc d C S C0 S0 : Nat} {ls : sxL} {st : List sxV} {B B' : sxB} {O O' : sxO} {G G' : sxG} {cl : mjL} {cs : List Value} {H H' : mjH} {L : List sxE1}
theorem sxHS.to (h : sxHS X gh scr v0 σ B O G H) (hu : sxUp σ σ') (hB : sxBR (gT gh) σ' B') : sxHS X gh scr v0 σ' B' O G H := ⟨hB, h.2.1, h.2.2.1.up hu, h.2.2.2.1.up hu, h.2.2.2.2.1, h.2.2.2.2.2.up hu⟩
theorem sxSl_sco {sl : Option sxN} (h : sxSl σ sl scr) : sxSl σ (mjSco sl k) scr := by
  unfold mjSco
  split
  · exact h
  · trivial
theorem sxSc_sco {sl : Option sxN} {n : sxN} (h : mjSco sl k = some n) : mjSco scr k = scr := by
  unfold mjSco at h ⊢
  split at h
  · rename_i e
    rw [if_pos e]
  · cases h
theorem sxCall_ok {i : Instr} {x : mjX} {y : MethodName} {nL : Nat} {ret : Option FieldType} {own : String} {hhh : List (Nat × Nat × Nat × Nat)} {np : Nat} {stt : Bool} {g : sxKt} (hxi : x.1 = i) (hM : mjM k = some (y, nL, ret, own, hhh, np, stt)) (hg : sxCall X k pc i x.2.2.1 = some g) (hr : g F ls st B O G C0 S0 = some L) (hF : sxFs σ X.1.2.1 d F cF) (hdd : d + F.length = d0) (hd0 : X.2.2.1 ≤ d0) (hl : sxLR X.1.2.1 σ ls cl) (hs : sxSR σ st cs) (hH : sxHS X gh scr v0 σ B O G H) (hC : C ≤ C0) (hS : S ≤ S0)
    (hstep : ∀ rec : mjRec, mjStep rec (mjSco scr k) d k pc cl cs H = mjCall rec (mjSco scr k) d k pc x hhh cl cs H) : ∃ e ∈ L, sxGd1 X gh scr v0 d0 Z σ (mjRn Z scr cF d k pc cl cs H C S) e := by
  unfold sxCall at hg
  cases hM2 : mjM x.2.2.1 with
  | none => rw [hM2] at hg; cases hg
  | some q =>
    obtain ⟨y2, nL2, ret2, own2, hh2, np2, stt2⟩ := q
    rw [hM2] at hg
    dsimp only at hg
    split at hg
    · cases hg
    · rename_i hlaw
      cases hg
      dsimp only at hr
      generalize hn : (if stt2 = true then np2 else np2 + 1) = n at hr
      split at hr
      · rename_i q1
        split at hr
        · rename_i q2
          split at hr
          · rename_i q3
            split at hr
            · rename_i q4
              split at hr
              · rename_i q5
                split at hr
                · rename_i q6
                  cases hr
                  have hlen := Nat.le_of_ble_eq_true q1
                  have hcat := Nat.le_of_ble_eq_true q3
                  have hfit := Nat.le_of_ble_eq_true q5
                  have hdep : F.length < X.2.2.1 := bltOk q2
                  have hHl : H.length = X.1.2.1 := hH.2.1.1
                  cases d with
                  | zero => omega
                  | succ d' =>
                    obtain ⟨ht, hdr⟩ := sxSR_split n hs
                    have hta := sxSR_rev ht
                    have hA : mjArgs (if stt2 = true then np2 else np2 + 1) cs = some ((cs.take n).reverse, cs.drop n) := by
                      rw [hn]
                      unfold mjArgs
                      rw [if_pos (by rw [sxSR_len hs]; exact hlen)]
                    have c1 : ((cs.drop n).map fun v => v.category).sum ≤ 8 := by rw [sxSR_cat hdr]; exact hcat
                    have c2 : mjRecv x.1 own2 (cs.take n).reverse H = true := by
                      rw [hxi]
                      unfold sxRecv at q4
                      unfold mjRecv
                      split at q4
                      · split at q4
                        · rename_i o w9 hw9
                          rw [hw9] at hta
                          obtain ⟨v, vs, hv9, h1, h2⟩ := sxSR_c hta
                          cases (show v = .ref o from h1)
                          split at q4
                          · rename_i c hc9
                            split at q4
                            · rename_i hlt
                              have hlt : o < X.1.2.1 := bltOk hlt
                              obtain ⟨e, e1, e2⟩ := hH.2.1.2 o c hc9 hlt
                              obtain ⟨t, vs9⟩ := e
                              rw [hv9]
                              dsimp only
                              rw [e1]
                              dsimp only
                              rw [← (show c.1 = t from e2.1.1)]
                              exact q4
                            · cases q4
                          · cases q4
                        · cases q4
                      · split at q4
                        · rename_i o w9 hw9
                          rw [hw9] at hta
                          obtain ⟨v, vs, hv9, h1, h2⟩ := sxSR_c hta
                          cases (show v = .ref o from h1)
                          rw [hv9]
                        · cases q4
                      · rename_i hi1 hi2
                        split
                        · exact absurd rfl (hi1 _)
                        · exact absurd rfl (hi2 _)
                        · rfl
                    have c3 : (lg_sl (cs.take n).reverse).length ≤ nL2 := by rw [sxSR_lg hta]; exact hfit
                    have c4 : mjSca H.length 0 cl (cs.drop n) = true := by
                      rw [hHl]
                      refine sxScA_ok hl hdr ?_
                      unfold sxScA at q6 ⊢
                      split at q6
                      · exact List.all_eq_true.mpr (fun q hq => List.all_eq_true.mp q6 q (List.mem_of_mem_drop hq))
                      · cases q6
                    have c5 : (st.take n).reverse.all (sxSc X.1.2.1) = true := by
                      unfold sxScA at q6
                      split at q6
                      · exact List.all_eq_true.mpr (fun q hq => List.all_eq_true.mp q6 q (List.mem_of_mem_take (List.mem_reverse.mp hq)))
                      · cases q6
                    refine ⟨_, List.mem_cons_self, σ, (d' + 1, k, pc, H.length, cl, cs.drop n) :: cF, d', lv_args 0 (cs.take n).reverse, [], H, C, S, sxUp.rf, ⟨⟨⟨⟨rfl, rfl, rfl, hHl⟩, ⟨hl, hdr⟩, hF⟩, by simp only [List.length_cons]; omega⟩, sxSR_argsR hta c5, trivial, hH, hC, hS⟩, fun z => ?_⟩
                    obtain ⟨f1, o1, h1, h2, f2, o2, h3, h4⟩ := z
                    have hsn : mjSco scr x.2.2.1 = none := if_neg hlaw
                    rw [hsn] at h1
                    refine ⟨max f1 f2 + 1, o2, ?_, h4⟩
                    show mjStep (mjEx (max f1 f2)) _ _ _ _ _ _ _ = _
                    rw [hstep]
                    unfold mjCall
                    rw [hM2]
                    dsimp only
                    rw [hA]
                    dsimp only
                    rw [if_pos ⟨c1, c2, c3, c4⟩, mjEx_mono (Nat.le_max_left f1 f2) _ _ _ _ _ _ _ _ h1]
                    dsimp only at h2 ⊢
                    rw [if_pos h2]
                    have hhk : mjHh k = hhh := by unfold mjHh; rw [hM]
                    rw [hhk] at h3
                    exact mjBack_mono (mjEx_mono (Nat.le_max_right f1 f2)) h3
                · cases hr
              · cases hr
            · cases hr
          · cases hr
        · cases hr
      · cases hr
theorem sxMath_ok {p : Nat} {mn : Bool} (hr : sxMath k p mn F ls st B O G C0 S0 = some L) (hF : sxFs σ X.1.2.1 d F cF) (hdd : d + F.length = d0) (hl : sxLR X.1.2.1 σ ls cl) (hs : sxSR σ st cs) (hH : sxHS X gh scr v0 σ B O G H) (hC : C ≤ C0) (hS : S ≤ S0) :
    ∃ (y x : Int32) (rs : List Value), cs = .int y :: .int x :: rs ∧ (rs.map fun v => v.category).sum ≤ 8 ∧ ∃ e ∈ L, sxGd1 X gh scr v0 d0 Z σ (mjRn Z scr cF d k p cl (.int (if (match mn with | false => decide (x < y) | true => decide (y < x)) = true then y else x) :: rs) H C S) e := by
  unfold sxMath at hr
  split at hr
  · rename_i y x r
    dsimp only at hr
    obtain ⟨vy, c1, rfl, ⟨Y, rfl, hy⟩, h2⟩ := sxSR_c hs
    obtain ⟨vx, c2, rfl, ⟨X0, rfl, hx⟩, h4⟩ := sxSR_c h2
    split at hr
    · rename_i hcat
      have hcat := Nat.le_of_ble_eq_true hcat
      refine ⟨Y, X0, c2, rfl, by rw [sxSR_cat h4]; exact hcat, ?_⟩
      have go : ∀ {B' : sxB} {n : sxN} {V : Int32}, sxBR (gT gh) σ B' → sxNR σ n V.toInt → sxGd1 X gh scr v0 d0 Z σ (mjRn Z scr cF d k p cl (.int V :: c2) H C S) (.inl (F, k, p, ls, .inr (false, n) :: r, B', O, G, C0, S0)) := fun hB' hV => ⟨σ, cF, d, cl, _, H, C, S, sxUp.rf, ⟨⟨hF, hdd⟩, hl, sxSR.cons ⟨_, rfl, hV⟩ h4, hH.to sxUp.rf hB', hC, hS⟩, id⟩
      split at hr
      · cases hr
        dsimp only
        by_cases hc : X0 < Y
        · rw [if_pos (decide_eq_true hc)]
          obtain ⟨B', m1, m2⟩ := sxLtC_ok hH.1 hx hy (Int32.lt_iff_toInt_lt.mp hc)
          exact ⟨_, List.mem_append_left _ (List.mem_map.mpr ⟨B', m1, rfl⟩), go m2 hy⟩
        · rw [if_neg (by simpa using hc)]
          obtain ⟨B', m1, m2⟩ := sxLeC_ok hH.1 hy hx (Int.not_lt.mp (fun q => hc (Int32.lt_iff_toInt_lt.mpr q)))
          exact ⟨_, List.mem_append_right _ (List.mem_map.mpr ⟨B', m1, rfl⟩), go m2 hx⟩
      · cases hr
        dsimp only
        by_cases hc : Y < X0
        · rw [if_pos (decide_eq_true hc)]
          obtain ⟨B', m1, m2⟩ := sxLtC_ok hH.1 hy hx (Int32.lt_iff_toInt_lt.mp hc)
          exact ⟨_, List.mem_append_left _ (List.mem_map.mpr ⟨B', m1, rfl⟩), go m2 hy⟩
        · rw [if_neg (by simpa using hc)]
          obtain ⟨B', m1, m2⟩ := sxLeC_ok hH.1 hx hy (Int.not_lt.mp (fun q => hc (Int32.lt_iff_toInt_lt.mpr q)))
          exact ⟨_, List.mem_append_right _ (List.mem_map.mpr ⟨B', m1, rfl⟩), go m2 hx⟩
    · cases hr
  · cases hr
theorem sxText_ok {p : Nat} {x : mjX} {i : Nat} (hp : p = pc + 3) (hxi : x.1 = .invokevirtual i) (h0 : x.2.2.1 = 900 ∨ x.2.2.1 = 901) (hr : sxText k p x.2.2.1 F ls st B O G C0 S0 = some L) (hF : sxFs σ X.1.2.1 d F cF) (hdd : d + F.length = d0) (hl : sxLR X.1.2.1 σ ls cl) (hs : sxSR σ st cs) (hH : sxHS X gh scr v0 σ B O G H) (hC : C ≤ C0) (hS : S ≤ S0)
    (hstep : ∀ rec : mjRec, mjStep rec (mjSco scr k) d k pc cl cs H = mjText rec (mjSco scr k) d k pc x cl cs H) : ∃ e ∈ L, sxGd1 X gh scr v0 d0 Z σ (mjRn Z scr cF d k pc cl cs H C S) e := by
  subst hp
  have hB := hH.1
  have go : ∀ {n : sxN} {V : Int32} {r : List sxV} {cr : List Value}, sxNR σ n V.toInt → sxSR σ r cr → (∀ rec : mjRec, mjText rec (mjSco scr k) d k pc x cl cs H = rec (mjSco scr k) d k (pc + 3) cl (.int V :: cr) H) → sxGd1 X gh scr v0 d0 Z σ (mjRn Z scr cF d k pc cl cs H C S) (.inl (F, k, pc + 3, ls, .inr (false, n) :: r, B, O, G, C0, S0)) := fun hV hr2 ht => ⟨σ, cF, d, cl, _, H, C, S, sxUp.rf, ⟨⟨hF, hdd⟩, hl, sxSR.cons ⟨_, rfl, hV⟩ hr2, hH, hC, hS⟩, fun z => z.plain (fun rec => (hstep rec).trans (ht rec))⟩
  unfold sxText at hr
  split at hr
  · rename_i e900
    split at hr
    · rename_i o r
      obtain ⟨vo, c1, rfl, h1, h2⟩ := sxSR_c hs
      cases (show vo = .ref o from h1)
      split at hr
      · rename_i bs hbs
        split at hr
        · rename_i q1
          split at hr
          · rename_i q2
            cases hr
            have q1 := Nat.le_of_ble_eq_true q1
            have q2 : bs.length < 2147483648 := bltOk q2
            refine ⟨_, List.mem_cons_self, go (V := Int32.ofNat bs.length) (cr := c1) ⟨0, hB.1.2, by rw [Int32.toInt_ofNat_of_lt (by omega)]; simp⟩ h2 (fun rec => ?_)⟩
            unfold mjText
            rw [if_pos e900]
            dsimp only
            rw [hbs]
            dsimp only
            rw [if_pos (by rw [sxSR_cat h2]; exact q1)]
          · cases hr
        · cases hr
      · cases hr
    · cases hr
  · rename_i e900
    have e900 : ¬ x.2.2.1 = 900 := e900
    split at hr
    · rename_i i0 o r
      obtain ⟨vi, c0, rfl, ⟨I, rfl, hi⟩, h9⟩ := sxSR_c hs
      obtain ⟨vo, c1, rfl, h1, h2⟩ := sxSR_c h9
      cases (show vo = .ref o from h1)
      have hI := sxN0 hB hi
      split at hr
      · rename_i bs hbs
        split at hr
        · rename_i q1
          split at hr
          · rename_i q2
            split at hr
            · rename_i c hc
              split at hr
              · rename_i q3
                cases hr
                have q1 := Nat.le_of_ble_eq_true q1
                have q2 := iLe_ok q2
                have q3 : c < 2147483648 := bltOk q3
                obtain ⟨n1, n2⟩ := nn_clamp (X := I) (by omega)
                refine ⟨_, List.mem_cons_self, go (V := Int32.ofNat c) (cr := c1) ⟨0, hB.1.2, by rw [Int32.toInt_ofNat_of_lt (by omega)]; simp⟩ h2 (fun rec => ?_)⟩
                unfold mjText
                rw [if_neg e900]
                dsimp only
                rw [hbs]
                dsimp only
                rw [if_pos ⟨n1, by rw [sxSR_cat h2]; exact q1⟩, n2, hI, hc]
              · cases hr
            · cases hr
          · cases hr
        · cases hr
      · cases hr
    · cases hr
theorem sxStepI_ok {x : mjX} {g : sxKt} (hx : mjAtI k pc = some x) (hg : sxStepI X k pc x = some g) (hr : g F ls st B O G C0 S0 = some L) (hGd : sxGd X.1 gh) (hK : X.1.2.1 < mjScr) (hd0 : X.2.2.1 ≤ d0) (hF : sxFs σ X.1.2.1 d F cF) (hdd : d + F.length = d0) (hl : sxLR X.1.2.1 σ ls cl) (hs : sxSR σ st cs) (hH : sxHS X gh scr v0 σ B O G H) (hC : C ≤ C0) (hS : S ≤ S0) :
    ∃ e ∈ L, sxGd1 X gh scr v0 d0 Z σ (mjRn Z scr cF d k pc cl cs H C S) e := by
  have hB := hH.1
  unfold sxStepI at hg
  cases hM : mjM k with
  | none => rw [hM] at hg; cases hg
  | some q =>
    obtain ⟨y, nL, ret, own, hhh, np, stt⟩ := q
    rw [hM] at hg
    have pl : ∀ {g0 : sxFn}, sxAlu X.1.2.1 x.1 pc x.2.2.2.1 = some g0 → (∀ rec : mjRec, mjStep rec (mjSco scr k) d k pc cl cs H = mjPl rec (mjSco scr k) d k pc x cl cs H) → (match g0 B ls st with | some l => some (sxMap (fun q => (.inl (F, k, q.1, q.2.1, q.2.2.1, q.2.2.2, O, G, C0, S0) : sxE1)) l) | none => none) = some L → ∃ e ∈ L, sxGd1 X gh scr v0 d0 Z σ (mjRn Z scr cF d k pc cl cs H C S) e := by
      intro g0 hg0 hstep hr
      split at hr
      · rename_i l hl0
        cases hr
        obtain ⟨q, hq, σ', cl', cs', h1, h2, h3, h4, h5⟩ := sxAlu_ok hg0 hl0 hB hl hs
        refine ⟨_, sxMap_mem hq, σ', cF, d, cl', cs', H, C, S, h1, ⟨⟨hF.up h1, hdd⟩, h3, h4, hH.to h1 h2, hC, hS⟩, fun z => z.plain (fun rec => ?_)⟩
        rw [hstep]
        unfold mjPl
        rw [h5]
      · cases hr
    have ph : ∀ {g0 : sxHn}, sxHp X.1 X.2.1 (mjSco X.2.2.2 k) x pc = some g0 → (∀ rec : mjRec, mjStep rec (mjSco scr k) d k pc cl cs H = mjPl rec (mjSco scr k) d k pc x cl cs H) → (match g0 B O G st with | some l => some (sxMap (fun q => (.inl (F, k, q.1, ls, q.2.1, q.2.2.1, q.2.2.2.1, q.2.2.2.2, C0, S0) : sxE1)) l) | none => none) = some L → ∃ e ∈ L, sxGd1 X gh scr v0 d0 Z σ (mjRn Z scr cF d k pc cl cs H C S) e := by
      intro g0 hg0 hstep hr
      split at hr
      · rename_i l hl0
        cases hr
        obtain ⟨e0, q, hq, σ', cs', H', h1, h2, h3, h4, h5, h6, h7, h8⟩ := sxHp_ok (sc := mjSco scr k) hGd (sxSl_sco hH.2.2.2.2.2) (fun n hn => sxSc_sco hn) hg0 hl0 hB hH.2.1 hH.2.2.1 hH.2.2.2.1 hs hK
        refine ⟨_, sxMap_mem hq, σ', cF, d, cl, cs', H', C, S, h1, ⟨⟨hF.up h1, hdd⟩, hl.up h1, h3, ⟨h2, h4, h5, h6, hH.2.2.2.2.1.tr h7, hH.2.2.2.2.2.up h1⟩, hC, hS⟩, fun z => z.plain (fun rec => ?_)⟩
        rw [hstep]
        unfold mjPl
        rw [e0]
        dsimp only
        rw [h8]
      · cases hr
    obtain ⟨i, n, a, b, w⟩ := x
    cases i <;> dsimp only at hg
    case ireturn =>
      cases ret with
      | none => cases hg
      | some ty =>
        cases hg
        dsimp only at hr
        split at hr
        · rename_i a9
          split at hr
          · rename_i hn
            cases hr
            obtain ⟨v, vs, rfl, h1, h2⟩ := sxSR_c hs
            cases sxSR_n h2
            obtain ⟨z, rfl, hz⟩ := sxNw_ok hB hn h1
            exact ⟨_, List.mem_cons_self, (sxPop_ok (v := some a9) (cv := some (.int z)) h1 hF hdd hH hC hS).imp (fun q => mjRn.stop (fun rec => by simp only [mjStep, hx, hM, mjRv]; rw [if_pos hz]) q)⟩
          · cases hr
        · cases hr
    case lreturn =>
      split at hg
      · rename_i hret
        subst hret
        cases hg
        dsimp only at hr
        split at hr
        · rename_i a9
          split at hr
          · rename_i hn
            cases hr
            obtain ⟨v, vs, rfl, h1, h2⟩ := sxSR_c hs
            cases sxSR_n h2
            obtain ⟨z, n9, rfl, rfl, h3⟩ := sxK1 h1 (Nat.eq_of_beq_eq_true hn)
            exact ⟨_, List.mem_cons_self, (sxPop_ok (v := some (.inr (true, n9))) (cv := some (.long z)) h1 hF hdd hH hC hS).imp (fun q => mjRn.stop (fun rec => by simp only [mjStep, hx, hM, mjRv]; rw [if_pos trivial]) q)⟩
          · cases hr
        · cases hr
      · cases hg
    case areturn =>
      split at hg
      · cases hg
        dsimp only at hr
        split at hr
        · rename_i a9
          split at hr
          · rename_i hn
            cases hr
            obtain ⟨v, vs, rfl, h1, h2⟩ := sxSR_c hs
            cases sxSR_n h2
            obtain ⟨z, rfl, rfl⟩ := sxK2 h1 (Nat.eq_of_beq_eq_true hn)
            exact ⟨_, List.mem_cons_self, (sxPop_ok (v := some (.inl z)) (cv := some (.ref z)) h1 hF hdd hH hC hS).imp (fun q => mjRn.stop (fun rec => by simp only [mjStep, hx, hM, mjRv]) q)⟩
          · cases hr
        · cases hr
      · cases hg
    case return_ =>
      split at hg
      · rename_i hret
        subst hret
        cases hg
        dsimp only at hr
        split at hr
        · cases hr
          cases sxSR_n hs
          exact ⟨_, List.mem_cons_self, (sxPop_ok (v := none) (cv := none) trivial hF hdd hH hC hS).imp (fun q => mjRn.stop (fun rec => by simp only [mjStep, hx, hM, mjRv]; rw [if_pos trivial]) q)⟩
        · cases hr
      · cases hg
    case new z0 =>
      split at hg
      · cases hg
      · rename_i h0
        split at hg
        · rename_i hthr
          cases hg
          dsimp only at hr
          split at hr
          · rename_i hcat
            split at hr
            · rename_i e he
              cases hr
              refine ⟨e, List.mem_cons_self, (sxThrow_ok (Z := Z) (C := C) (S := S) (c := 1) (s := 6) he hF hdd hH (by omega) (by omega)).imp (fun q => mjRn.stop (fun rec => ?_) q)⟩
              simp only [mjStep, hx, hM]
              rw [if_neg h0, if_pos ⟨hthr, by rw [sxSR_cat hs]; exact Nat.le_of_ble_eq_true hcat⟩]
            · cases hr
          · cases hr
        · cases hg
    case invokespecial z0 =>
      split at hg
      · cases hg
      · rename_i h0
        exact sxCall_ok (x := (.invokespecial z0, n, a, b, w)) rfl hM hg hr hF hdd hd0 hl hs hH hC hS (fun rec => by simp only [mjStep, hx, hM]; rw [if_neg h0])
    case invokevirtual z0 =>
      split at hg
      · rename_i h0
        cases hg
        exact sxText_ok (x := (.invokevirtual z0, n, a, b, w)) rfl rfl h0 hr hF hdd hl hs hH hC hS (fun rec => by simp only [mjStep, hx, hM]; rw [if_pos h0])
      · rename_i h0
        exact sxCall_ok (x := (.invokevirtual z0, n, a, b, w)) rfl hM hg hr hF hdd hd0 hl hs hH hC hS (fun rec => by simp only [mjStep, hx, hM]; rw [if_neg h0])
    case invokestatic z0 =>
      split at hg
      · rename_i h0
        cases hg
        obtain ⟨y9, x9, rs, rfl, h1, e, he, h2⟩ := sxMath_ok (Z := Z) hr hF hdd hl hs hH hC hS
        refine ⟨e, he, h2.imp (fun q => q.plain (fun rec => ?_))⟩
        simp only [mjStep, hx, hM]
        rw [if_pos h0, if_pos h1]
        simp only [decide_eq_true_eq]
      · rename_i h0
        split at hg
        · rename_i h3
          cases hg
          obtain ⟨y9, x9, rs, rfl, h1, e, he, h2⟩ := sxMath_ok (Z := Z) hr hF hdd hl hs hH hC hS
          refine ⟨e, he, h2.imp (fun q => q.plain (fun rec => ?_))⟩
          simp only [mjStep, hx, hM]
          rw [if_neg h0, if_pos h3, if_pos h1]
          simp only [decide_eq_true_eq]
        · rename_i h3
          exact sxCall_ok (x := (.invokestatic z0, n, a, b, w)) rfl hM hg hr hF hdd hd0 hl hs hH hC hS (fun rec => by simp only [mjStep, hx, hM]; rw [if_neg h0, if_neg h3])
    all_goals first
      | (cases hg; done)
      | (split at hg
         · rename_i g0 hg0
           cases hg
           exact pl hg0 (fun rec => by simp only [mjStep, hx, hM]; rfl) hr
         · split at hg
           · rename_i g0 hg0
             cases hg
             exact ph hg0 (fun rec => by simp only [mjStep, hx, hM]; rfl) hr
           · cases hg)
end SXSOK
